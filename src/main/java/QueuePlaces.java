/**
 * A shop that sells places in yesterday's queues. The promises that it keeps
 * stand in ../shared/DOC.md; README.md says how it is used.
 */
public final class QueuePlaces {
    public static final int BAD = -1, FULL = -2, FINDING = -3, STATE = -4, SPENT = -6, NONE = -9;

    /** What is not refused. */
    private static final int FINE = 0;
    private static final int NOTHING = 1, BEYOND = 2, UNLIKE = 3, NOUGHT = 4, SIZE = 5;

    private static final int ROWS = 6, ROW_SIZE = 40, TEXTS = 4, TEXT_SIZE = 60, KEPT = 3;
    private static final int MOST_PEOPLE = 6, MOST_LOAVES = 20, MOST_TICKETS = 12, MOST_DEEDS = 40;
    private static final int MOST_WISHED = 3, MOST_BOUGHT = 2, MOST_PAIRS = 8, MOST_GOT = 9;
    private static final int MOST_LOTS = 20, SHARES = 12;

    /** So many orders of six there are. */
    private static final int ALL_ORDERS = 720;

    private static final int PERSON = 0, SOLDIER = 1, CHILD = 2, UMBRELLA = 3, GENERAL = 4, ORPHAN = 5;
    private static final int[] LETTERS = {112, 115, 99, 117, 103, 111};
    private static final int BLANK = 32, LINE_LETTER = 113, FIGURE_0 = 48, FIGURE_9 = 57;

    /** A deed is 64 times what is done, and a ticket (8 times the one, and the place), a number of one, or of loaves. */
    private static final int IDLE = 0, SALE = 1, RETURN = 2, CHANGE = 3;

    private static final int LOT_FACTOR = 48271, LOT_MODULUS = 2147483647;

    private final Shelf rows = new Shelf(ROWS, ROW_SIZE);
    private final Shelf texts = new Shelf(TEXTS, TEXT_SIZE);
    private final Shelf kept = new Shelf(KEPT, MOST_DEEDS);
    private final Reader reader = new Reader(texts);
    private final Line line = new Line();
    private final Search search = new Search(line);
    private final Orders orders = new Orders(line);
    private final Match match = new Match(line);
    private final Chances chances = new Chances(line);

    private final int[] findingCounts = new int[SIZE + 1];
    private int latestFinding;
    private int told;
    private long above;
    private long below;

    public QueuePlaces() {
        below = 1;
    }

    // ---- 1 rows, texts, lines

    public int row(int r, int n) {
        return anew(rows, r, n, 0);
    }

    public int lay(int r, int i, int v) {
        int refusal = refusalOfPlace(rows, r, i);
        if (refusal != FINE) {
            return refusal;
        }
        int was = rows.get(r, i);
        rows.set(r, i, v);
        return tell(was);
    }

    public int at(int r, int i) {
        int refusal = refusalOfPlace(rows, r, i);
        if (refusal != FINE) {
            return refusal;
        }
        return tell(rows.get(r, i));
    }

    public int tear(int r) {
        int refusal = refusalOf(rows, r);
        if (refusal != FINE) {
            return refusal;
        }
        rows.drop(r);
        return 1;
    }

    public int copy(int r, int i, int to, int j, int n) {
        if (!rows.isNumber(r) || !rows.isNumber(to)) {
            return BAD;
        }
        if (n < 0) {
            return found(SIZE);
        }
        if (!rows.has(r) || !rows.has(to)) {
            return found(NOTHING);
        }
        if (!rows.hasSpan(r, i, n) || !rows.hasSpan(to, j, n)) {
            return found(BEYOND);
        }
        rows.bring(r, i, to, j, n);
        return 1;
    }

    public int mean(int r) {
        int refusal = refusalOf(rows, r);
        if (refusal != FINE) {
            return refusal;
        }
        int size = rows.sizeOf(r);
        if (size <= 0) {
            return found(NOUGHT);
        }
        return tell((int) (rows.sum(r) / size));
    }

    public int text(int t, int n) {
        return anew(texts, t, n, BLANK);
    }

    public int put(int t, int i, int v) {
        int refusal = refusalOfPlace(texts, t, i);
        if (refusal != FINE) {
            return refusal;
        }
        int was = texts.get(t, i);
        texts.set(t, i, (byte) v);
        return was + 1000;
    }

    public int fault(int t) {
        int refusal = refusalOf(texts, t);
        if (refusal != FINE) {
            return refusal;
        }
        return reader.read(t);
    }

    public int line(int t) {
        int refusal = refusalOf(texts, t);
        if (refusal != FINE) {
            return refusal;
        }
        if (reader.read(t) != NONE) {
            return STATE;
        }
        line.crowd.take(reader.crowd);
        line.restart();
        for (int k = 0; k < KEPT; k++) {
            kept.drop(k);
        }
        return line.crowd.size;
    }

    public int one(int i, int what) {
        if (!line.crowd.has(i) || what < 0 || what > 6) {
            return BAD;
        }
        line.serve(line.order);
        return tell(trait(i, what));
    }

    public int mark(int i, int kind) {
        if (!line.crowd.has(i) || kind <= PERSON || kind > ORPHAN) {
            return BAD;
        }
        if (!Crowd.isKindOf(line.crowd.kindOf(i), kind)) {
            return found(UNLIKE);
        }
        line.serve(line.order);
        switch (kind) {
            case SOLDIER:
                return line.passedBy(i);
            case UMBRELLA:
                return line.serving.leftFor(i);
            case GENERAL:
                return line.serving.wantOf(i) - line.serving.gainOf(i);
            default:
                return line.crowd.size - 1 - line.placeOf(i);
        }
    }

    // ---- 2 deeds

    public int ticket(int i, int place) {
        if (!line.crowd.has(i) || !line.crowd.has(place)) {
            return BAD;
        }
        int number = line.tickets;
        if (!line.canSell(8 * i + place)) {
            return STATE;
        }
        if (line.done >= MOST_DEEDS) {
            return FULL;
        }
        line.act(SALE, 8 * i + place);
        return number;
    }

    public int back(int k) {
        if (!line.hasTicket(k)) {
            return BAD;
        }
        if (line.done >= MOST_DEEDS) {
            return FULL;
        }
        int falling = line.without(k, false);
        line.act(RETURN, k);
        return falling;
    }

    public int loaves(int n) {
        if (n < 0 || n > MOST_LOAVES) {
            return BAD;
        }
        int were = line.loaves;
        if (line.crowd.size == 0 || were == n) {
            return STATE;
        }
        if (line.done >= MOST_DEEDS) {
            return FULL;
        }
        line.act(CHANGE, n);
        return were;
    }

    public int undo(int n) {
        if (n < 0 || n > line.done) {
            return BAD;
        }
        int undone = line.done - n;
        line.redo(n);
        return undone;
    }

    public int keep(int k) {
        if (!kept.isNumber(k)) {
            return BAD;
        }
        if (line.crowd.size == 0) {
            return STATE;
        }
        kept.fresh(k, line.done, IDLE);
        for (int d = 0; d < line.done; d++) {
            kept.set(k, d, line.deed(d));
        }
        return line.done;
    }

    public int on(int k) {
        int refusal = refusalOf(kept, k);
        if (refusal != FINE) {
            return refusal;
        }
        line.restart();
        int deeds = kept.sizeOf(k);
        for (int d = 0; d < deeds; d++) {
            line.act(kept.get(k, d) / 64, kept.get(k, d) % 64);
        }
        return deeds;
    }

    // ---- 3 who stood where

    public int who(int place) {
        return line.crowd.has(place) ? Order.whoAt(line.order, place) : BAD;
    }

    public int sold(int k, int what) {
        if (!line.hasTicket(k) || what < 0 || what > 1) {
            return BAD;
        }
        return what == 0 ? line.saleOf(k) / 8 : line.saleOf(k) % 8;
    }

    public int wants(int i, int place) {
        if (!line.crowd.has(i) || !line.crowd.has(place)) {
            return BAD;
        }
        return Crowd.wantOf(line.crowd.kindOf(i), place == line.crowd.size - 1);
    }

    public int gets(int i, int place) {
        if (!line.crowd.has(i) || !line.crowd.has(place)) {
            return BAD;
        }
        return line.gainAt(i, place);
    }

    public int best(int i) {
        if (!line.crowd.has(i)) {
            return BAD;
        }
        int place = 0;
        int most = line.gainAt(i, 0);
        for (int p = 1; p < line.crowd.size; p++) {
            int gain = line.gainAt(i, p);
            if (gain > most) {
                place = p;
                most = gain;
            }
        }
        tell(most);
        return place;
    }

    public int falls(int k) {
        return line.hasTicket(k) ? line.without(k, false) : BAD;
    }

    // ---- 4 to have been

    public int wish(int a, int b, int c, int r) {
        Crowd crowd = line.crowd;
        if (!crowd.has(a) || !crowd.has(b) || !crowd.has(c) || a == b || !rows.isNumber(r)) {
            return BAD;
        }
        int fewest = search.fewest(a, b, c);
        if (fewest == NONE) {
            return NONE;
        }
        rows.fresh(r, fewest, 0);
        for (int t = 0; t < fewest; t++) {
            rows.set(r, t, search.step(t, fewest));
        }
        return fewest;
    }

    // ---- 5 by what they got

    public int lines(int r) {
        int refusal = line.crowd.size == 0 && rows.isNumber(r) ? STATE : refusalOfPairs(r);
        if (refusal != FINE) {
            return refusal;
        }
        tallyOrders(r);
        return tellRatio(orders.total, 1);
    }

    public int can(int r, int place) {
        int refusal = line.crowd.has(place) ? refusalOfPairs(r) : BAD;
        if (refusal != FINE) {
            return refusal;
        }
        tallyOrders(r);
        return orders.whoCan(place);
    }

    public int next(int r) {
        int refusal = line.crowd.size == 0 && rows.isNumber(r) ? STATE : refusalOfPairs(r);
        if (refusal != FINE) {
            return refusal;
        }
        tallyOrders(r);
        if (orders.total == 0) {
            return NONE;
        }
        int asked = 0;
        for (int i = 1; i < line.crowd.size; i++) {
            if (orders.greatestPart(i) < orders.greatestPart(asked)) {
                asked = i;
            }
        }
        tell(orders.greatestPart(asked));
        return asked;
    }

    // ---- 6 whose wants

    public int sets(int v) {
        if (v < 0 || v > MOST_LOAVES) {
            return BAD;
        }
        if (line.crowd.size == 0) {
            return STATE;
        }
        line.serve(line.order);
        int first = NONE;
        int number = 0;
        for (int set = 0; set < 1 << line.crowd.size; set++) {
            if (line.serving.wantOfAll(set) == v) {
                first = number == 0 ? set : first;
                number++;
            }
        }
        tell(first);
        return tellRatio(number, 1);
    }

    public int sure(int v) {
        if (v < 0 || v > MOST_LOAVES) {
            return BAD;
        }
        if (line.crowd.size == 0) {
            return STATE;
        }
        line.serve(line.order);
        int everybody = (1 << line.crowd.size) - 1;
        int number = 0;
        int inEach = everybody;
        int inSome = 0;
        for (int set = 0; set <= everybody; set++) {
            if (line.serving.wantOfAll(set) == v) {
                inEach &= set;
                inSome |= set;
                number++;
            }
        }
        if (number == 0) {
            return found(NOUGHT);
        }
        tell(everybody & ~inSome);
        return inEach;
    }

    // ---- 7 by turns

    public int duel(int i, int j, int n) {
        if (!line.crowd.has(i) || !line.crowd.has(j) || i == j || n < 0 || n > MOST_BOUGHT) {
            return BAD;
        }
        return tell(match.outcome(i, j, n));
    }

    // ---- 8 chances, lots

    public int odds(int i, int p) {
        if (!line.crowd.has(i) || p < 0 || p > SHARES) {
            return BAD;
        }
        return tellRatio(chances.ofContent(i, p), chances.whole());
    }

    public int mid(int p) {
        if (p < 0 || p > SHARES) {
            return BAD;
        }
        if (line.crowd.size == 0) {
            return STATE;
        }
        return tellRatio(chances.ofLeft(p), chances.whole());
    }

    public int lots(int n, int seed) {
        if (n < 1 || n > MOST_LOTS || seed < 1 || seed >= LOT_MODULUS) {
            return BAD;
        }
        if (line.crowd.size == 0) {
            return STATE;
        }
        if (line.done + n > MOST_DEEDS) {
            return FULL;
        }
        long number = seed;
        for (int lot = 0; lot < n; lot++) {
            number = number * LOT_FACTOR % LOT_MODULUS;
            line.actByLot((int) number);
        }
        line.serve(line.order);
        return line.serving.gainOfAll();
    }

    // ---- 9 what is told

    public int asked() {
        return told;
    }

    public long upper() {
        return above;
    }

    public long lower() {
        return below;
    }

    public int count(int what) {
        if (what < 0 || what > 11) {
            return BAD;
        }
        line.serve(line.order);
        return amount(what);
    }

    public int finding() {
        return latestFinding;
    }

    public int findings(int f) {
        return f >= NOTHING && f <= SIZE ? findingCounts[f] : BAD;
    }

    public long digest() {
        line.serve(line.order);
        long h = 17;
        for (int what = 0; what <= 11; what++) {
            h = 31 * h + amount(what);
        }
        for (int i = 0; i < line.crowd.size; i++) {
            for (int what = 0; what <= 6; what++) {
                h = 31 * h + trait(i, what);
            }
        }
        for (int k = 0; k < line.tickets; k++) {
            h = 31 * h + line.saleOf(k) / 8;
            h = 31 * h + line.saleOf(k) % 8;
        }
        for (int k = 0; k < KEPT; k++) {
            h = 31 * h + kept.sizeOf(k);
        }
        return texts.digested(rows.digested(h));
    }

    // ---- what the calls share

    private int found(int f) {
        latestFinding = f;
        if (f >= NOTHING && f <= SIZE) {
            findingCounts[f]++;
        }
        return FINDING;
    }

    /** The refusal of a row that is none, or missing. */
    private int refusalOf(Shelf shelf, int r) {
        if (!shelf.isNumber(r)) {
            return BAD;
        }
        return shelf.has(r) ? FINE : found(NOTHING);
    }

    private int refusalOfPlace(Shelf shelf, int r, int i) {
        int refusal = refusalOf(shelf, r);
        if (refusal != FINE) {
            return refusal;
        }
        return shelf.hasPlace(r, i) ? FINE : found(BEYOND);
    }

    private int anew(Shelf shelf, int r, int n, int v) {
        if (!shelf.isNumber(r) || n > shelf.most) {
            return BAD;
        }
        if (n < 0) {
            return found(SIZE);
        }
        shelf.fresh(r, n, v);
        return n;
    }

    private int tell(int v) {
        told = v;
        return 1;
    }

    private int tellRatio(long number, long whole) {
        long divisor = greatestDivisor(number, whole);
        if (divisor > 0) {
            above = number / divisor;
            below = whole / divisor;
        }
        return 1;
    }

    private static long greatestDivisor(long a, long b) {
        long greater = a;
        long lesser = b;
        for (int step = 0; step < 200 && lesser != 0; step++) {
            long rest = greater % lesser;
            greater = lesser;
            lesser = rest;
        }
        return greater;
    }

    /** What one(i, what) tells; the line as it stands has been served ahead. */
    private int trait(int i, int what) {
        switch (what) {
            case 0:
                return line.crowd.kindOf(i);
            case 1:
                return line.crowd.patienceOf(i);
            case 2:
                return line.placeOf(i);
            case 3:
                return line.serving.wantOf(i);
            case 4:
                return line.serving.gainOf(i);
            case 5:
                return line.serving.turnOf(i);
            default:
                return line.metBy(i);
        }
    }

    /** What count(what) answers; the line as it stands has been served ahead. */
    private int amount(int what) {
        switch (what) {
            case 0:
                return line.crowd.size;
            case 1:
                return line.loaves;
            case 2:
                return line.tickets;
            case 3:
                return line.done;
            case 4:
                return line.serving.turnedAway;
            case 5:
                return line.serving.gainOfAll();
            case 6:
                return line.serving.content;
            case 7:
                return line.crowd.howMany(SOLDIER);
            case 8:
                return line.crowd.howMany(CHILD);
            case 9:
                return rows.there();
            case 10:
                return texts.there();
            default:
                return kept.there();
        }
    }

    /** The refusal of a row that is not of pairs (one, how many loaves it got). */
    private int refusalOfPairs(int r) {
        int refusal = refusalOf(rows, r);
        if (refusal != FINE) {
            return refusal;
        }
        int size = rows.sizeOf(r);
        if (size % 2 != 0 || size > 2 * MOST_PAIRS) {
            return found(SIZE);
        }
        for (int i = 0; i < size; i += 2) {
            int got = rows.get(r, i + 1);
            if (!line.crowd.has(rows.get(r, i)) || got < 0 || got > MOST_GOT) {
                return found(UNLIKE);
            }
        }
        return FINE;
    }

    private void tallyOrders(int r) {
        orders.forget();
        int size = rows.sizeOf(r);
        for (int i = 0; i < size; i += 2) {
            orders.learn(rows.get(r, i), rows.get(r, i + 1));
        }
        Orders.extend(orders, 0, 0, 0);
    }

    /** Numbered rows, each of a size of its own, or missing. */
    private static final class Shelf {
        private static final int MISSING = -1;

        final int most;
        private final int[] sizes;
        private final int[] places;

        Shelf(int number, int most) {
            this.most = most;
            sizes = new int[Math.max(number, 0)];
            places = new int[Math.max(number * most, 0)];
            for (int r = 0; r < sizes.length; r++) {
                sizes[r] = MISSING;
            }
        }

        boolean isNumber(int r) {
            return r >= 0 && r < sizes.length;
        }

        int sizeOf(int r) {
            return isNumber(r) ? sizes[r] : MISSING;
        }

        boolean has(int r) {
            return sizeOf(r) != MISSING;
        }

        boolean hasPlace(int r, int i) {
            return isNumber(r) && i >= 0 && i < sizes[r];
        }

        /** Whether n places are there from place i on: with n 0, too, i is a place or the row's end. */
        boolean hasSpan(int r, int i, int n) {
            return has(r) && n >= 0 && i >= 0 && i <= sizeOf(r) - n;
        }

        int get(int r, int i) {
            int slot = r * most + i;
            return hasPlace(r, i) && slot >= 0 && slot < places.length ? places[slot] : 0;
        }

        void set(int r, int i, int v) {
            int slot = r * most + i;
            if (hasPlace(r, i) && slot >= 0 && slot < places.length) {
                places[slot] = v;
            }
        }

        void fresh(int r, int n, int v) {
            if (isNumber(r) && n >= 0 && n <= most) {
                sizes[r] = n;
                for (int i = 0; i < n; i++) {
                    set(r, i, v);
                }
            }
        }

        void drop(int r) {
            if (isNumber(r)) {
                sizes[r] = MISSING;
            }
        }

        void bring(int r, int i, int to, int j, int n) {
            if (!hasSpan(r, i, n) || !hasSpan(to, j, n)) {
                return;
            }
            int from = r * most + i;
            int into = to * most + j;
            if (Math.min(from, into) >= 0 && Math.max(from, into) <= places.length - n) {
                System.arraycopy(places, from, places, into, n);
            }
        }

        long sum(int r) {
            long sum = 0;
            for (int i = 0; i < sizeOf(r); i++) {
                sum += get(r, i);
            }
            return sum;
        }

        int there() {
            int there = 0;
            for (int r = 0; r < sizes.length; r++) {
                if (has(r)) {
                    there++;
                }
            }
            return there;
        }

        long digested(long before) {
            long h = before;
            for (int r = 0; r < sizes.length; r++) {
                h = 31 * h + sizeOf(r);
                for (int i = 0; i < sizeOf(r); i++) {
                    h = 31 * h + get(r, i);
                }
            }
            return h;
        }
    }

    /** Who the people are, and how many loaves there are at first. */
    private static final class Crowd {
        int size;
        int loaves;
        private final int[] kinds = new int[MOST_PEOPLE];
        private final int[] patience = new int[MOST_PEOPLE];

        /** Whether there is such a one: places of the line have the same numbers. */
        boolean has(int i) {
            return i >= 0 && i < size;
        }

        void clear() {
            size = 0;
            loaves = 0;
        }

        void add(int kind, int ownPatience) {
            if (size >= 0 && size < kinds.length && size < patience.length) {
                kinds[size] = kind;
                patience[size] = ownPatience;
                size++;
            }
        }

        void take(Crowd other) {
            clear();
            loaves = other.loaves;
            for (int i = 0; i < other.size; i++) {
                add(other.kindOf(i), other.patienceOf(i));
            }
        }

        int kindOf(int i) {
            return i >= 0 && i < kinds.length ? kinds[i] : PERSON;
        }

        int patienceOf(int i) {
            return i >= 0 && i < patience.length ? patience[i] : 0;
        }

        static boolean isKindOf(int own, int kind) {
            return own == kind || own == GENERAL && kind == SOLDIER || own == ORPHAN && kind == CHILD;
        }

        int howMany(int kind) {
            int number = 0;
            for (int i = 0; i < size; i++) {
                if (isKindOf(kindOf(i), kind)) {
                    number++;
                }
            }
            return number;
        }

        static int wantOf(int kind, boolean isLast) {
            switch (kind) {
                case CHILD:
                    return 0;
                case UMBRELLA:
                    return 2;
                case GENERAL:
                    return 3;
                case ORPHAN:
                    return isLast ? 1 : 0;
                default:
                    return 1;
            }
        }
    }

    /** Reads a text into a crowd of its own, so that a faulty one leaves the line's as it is. */
    private static final class Reader {
        final Crowd crowd = new Crowd();
        private final Shelf texts;
        private int text;
        private int place;

        Reader(Shelf texts) {
            this.texts = texts;
        }

        /** The fault, or NONE. The text's end is no letter and no figure, so too early an end is a fault there. */
        int read(int t) {
            text = t;
            place = 0;
            crowd.clear();
            skipBlanks();
            if (place >= texts.sizeOf(text) || texts.get(text, place) != LINE_LETTER) {
                return place;
            }
            place++;
            return readLoaves() ? readPeople() : place;
        }

        private void skipBlanks() {
            while (place < texts.sizeOf(text) && texts.get(text, place) == BLANK) {
                place++;
            }
        }

        private boolean readLoaves() {
            int tens = figureAt(place);
            if (tens < 0) {
                return false;
            }
            int units = figureAt(place + 1);
            if (units < 0) {
                place++;
                return false;
            }
            crowd.loaves = 10 * tens + units;
            if (crowd.loaves > MOST_LOAVES) {
                return false;
            }
            place += 2;
            return true;
        }

        private int readPeople() {
            for (int i = 0; i <= MOST_PEOPLE; i++) {
                skipBlanks();
                if (i > 0 && place >= texts.sizeOf(text)) {
                    return NONE;
                }
                int kind = kindAt(place);
                if (kind < 0 || i == MOST_PEOPLE) {
                    return place;
                }
                place++;
                int patience = figureAt(place);
                if (patience < 1) {
                    return place;
                }
                place++;
                crowd.add(kind, patience);
            }
            return place;
        }

        /** The figure at a place, -1 where there is none. */
        private int figureAt(int i) {
            int sign = texts.get(text, i);
            boolean isFigure = texts.hasPlace(text, i) && sign >= FIGURE_0 && sign <= FIGURE_9;
            return isFigure ? sign - FIGURE_0 : -1;
        }

        /** The kind whose letter stands at a place, -1 where there is none. */
        private int kindAt(int i) {
            if (!texts.hasPlace(text, i)) {
                return -1;
            }
            for (int kind = 0; kind < LETTERS.length; kind++) {
                if (texts.get(text, i) == LETTERS[kind]) {
                    return kind;
                }
            }
            return -1;
        }
    }

    /** An order of people is one number, three bits a place, the first place lowest: so none is made anew by a ticket. */
    private static final class Order {
        static int first(int size) {
            int order = 0;
            for (int i = 0; i < size; i++) {
                order = with(order, i, i);
            }
            return order;
        }

        static int with(int order, int place, int i) {
            return order | i << 3 * place;
        }

        static int whoAt(int order, int place) {
            return order >> 3 * place & 7;
        }

        /** The place at which one stands; size, if it stands nowhere. */
        static int placeOf(int order, int size, int i) {
            int place = 0;
            while (place < size && whoAt(order, place) != i) {
                place++;
            }
            return place;
        }

        /** The order by one more ticket (8 times the one, and the place). */
        static int by(int order, int size, int ticket) {
            int i = ticket / 8;
            int to = ticket % 8;
            int from = placeOf(order, size, i);
            if (from >= size || to >= size) {
                return order;
            }
            int others = ahead(order, from) | behind(order, from + 1) << 3 * from;
            return ahead(others, to) | i << 3 * to | behind(others, to) << 3 * (to + 1);
        }

        private static int ahead(int order, int place) {
            return order & (1 << 3 * place) - 1;
        }

        private static int behind(int order, int place) {
            return order >> 3 * place;
        }

        static boolean haveMet(int order, int size, int a, int b) {
            return Math.abs(placeOf(order, size, a) - placeOf(order, size, b)) == 1;
        }

        /** A number of its own (below 720) for each order of all of six at most. */
        static int rank(int order, int size) {
            int rank = 0;
            int stand = 0;
            for (int place = 0; place < size; place++) {
                int i = whoAt(order, place);
                rank = rank * (size - place) + i - Integer.bitCount(stand & (1 << i) - 1);
                stand |= 1 << i;
            }
            return rank;
        }
    }

    /** What people in an order get. Of who is not in the order nothing is told. */
    private static final class Serving {
        int turnedAway;
        int content;
        private final Crowd crowd;
        private int loaves;
        private int left;
        private int served;
        private final int[] wanted = new int[MOST_PEOPLE];
        private final int[] gained = new int[MOST_PEOPLE];
        private final int[] turns = new int[MOST_PEOPLE];
        private final int[] leftThen = new int[MOST_PEOPLE];

        Serving(Crowd crowd) {
            this.crowd = crowd;
        }

        void serve(int order, int size, int allLoaves) {
            loaves = allLoaves;
            left = allLoaves;
            served = 0;
            turnedAway = 0;
            content = 0;
            for (int round = 0; round < 2; round++) {
                for (int place = 0; place < size; place++) {
                    int i = Order.whoAt(order, place);
                    int kind = crowd.kindOf(i);
                    if (Crowd.isKindOf(kind, SOLDIER) == (round == 0)) {
                        serveOne(i, Crowd.wantOf(kind, place == size - 1));
                    }
                }
            }
        }

        private void serveOne(int i, int want) {
            if (i < 0 || i >= MOST_PEOPLE) {
                return;
            }
            boolean away = served > crowd.patienceOf(i);
            int gain = away ? 0 : Math.min(want, left);
            wanted[i] = want;
            gained[i] = gain;
            turns[i] = served;
            leftThen[i] = left;
            if (away) {
                turnedAway |= 1 << i;
            }
            if (want > 0 && gain == want) {
                content |= 1 << i;
            }
            left -= gain;
            served++;
        }

        int wantOf(int i) {
            return i >= 0 && i < wanted.length ? wanted[i] : 0;
        }

        int gainOf(int i) {
            return i >= 0 && i < gained.length ? gained[i] : 0;
        }

        /** Behind how many one is served. */
        int turnOf(int i) {
            return i >= 0 && i < turns.length ? turns[i] : 0;
        }

        /** How many loaves are left as one's turn comes. */
        int leftFor(int i) {
            return i >= 0 && i < leftThen.length ? leftThen[i] : 0;
        }

        int leftInTheEnd() {
            return left;
        }

        int gainOfAll() {
            return loaves - left;
        }

        int wantOfAll(int set) {
            int sum = 0;
            for (int i = 0; i < crowd.size; i++) {
                if ((set >> i & 1) == 1) {
                    sum += wantOf(i);
                }
            }
            return sum;
        }
    }

    /** The line as it is: what comes of the first one by the deeds. */
    private static final class Line {
        final Crowd crowd = new Crowd();
        final Serving serving = new Serving(crowd);
        int order;
        int loaves;
        int tickets;
        int done;
        private final int[] sales = new int[MOST_TICKETS];
        private final int[] deeds = new int[MOST_DEEDS];

        void restart() {
            order = Order.first(crowd.size);
            loaves = crowd.loaves;
            tickets = 0;
            done = 0;
        }

        void serve(int someOrder) {
            serving.serve(someOrder, crowd.size, loaves);
        }

        int placeOf(int i) {
            return Order.placeOf(order, crowd.size, i);
        }

        int gainAt(int i, int place) {
            serve(Order.by(order, crowd.size, 8 * i + place));
            return serving.gainOf(i);
        }

        /** How many stand ahead of one and are served behind it. */
        int passedBy(int i) {
            int passed = 0;
            for (int place = 0; place < placeOf(i); place++) {
                if (serving.turnOf(Order.whoAt(order, place)) > serving.turnOf(i)) {
                    passed++;
                }
            }
            return passed;
        }

        int metBy(int i) {
            int met = 0;
            for (int other = 0; other < crowd.size; other++) {
                if (Order.haveMet(order, crowd.size, i, other)) {
                    met |= 1 << other;
                }
            }
            return met;
        }

        boolean hasTicket(int k) {
            return k >= 0 && k < tickets;
        }

        int saleOf(int k) {
            return k >= 0 && k < sales.length ? sales[k] : 0;
        }

        int deed(int d) {
            return d >= 0 && d < deeds.length ? deeds[d] : IDLE;
        }

        boolean canSell(int ticket) {
            return tickets < MOST_TICKETS && placeOf(ticket / 8) != ticket % 8;
        }

        /** Does a deed that can be done, and writes it down. */
        void act(int what, int number) {
            switch (what) {
                case SALE:
                    sell(number);
                    break;
                case RETURN:
                    without(number, true);
                    break;
                case CHANGE:
                    loaves = number;
                    break;
                default:
                    break;
            }
            if (done >= 0 && done < deeds.length) {
                deeds[done] = 64 * what + number;
                done++;
            }
        }

        private void sell(int ticket) {
            if (tickets >= 0 && tickets < sales.length) {
                sales[tickets] = ticket;
                tickets++;
                order = Order.by(order, crowd.size, ticket);
            }
        }

        /** How many tickets fall where one is given back: truly, or as if. */
        int without(int k, boolean truly) {
            int orderSoFar = Order.first(crowd.size);
            int staying = 0;
            int falling = 0;
            for (int t = 0; t < tickets && t < sales.length; t++) {
                int ticket = sales[t];
                boolean isThere = Order.placeOf(orderSoFar, crowd.size, ticket / 8) == ticket % 8;
                if (t > k && isThere) {
                    falling++;
                } else if (t != k) {
                    orderSoFar = Order.by(orderSoFar, crowd.size, ticket);
                    if (truly && staying < sales.length) {
                        sales[staying] = ticket;
                    }
                    staying++;
                }
            }
            if (truly) {
                order = orderSoFar;
                tickets = staying;
            }
            return falling;
        }

        /** The first deeds alone, done anew from the first line on. */
        void redo(int n) {
            restart();
            for (int d = 0; d < n && d < deeds.length; d++) {
                act(deeds[d] / 64, deeds[d] % 64);
            }
        }

        void actByLot(int number) {
            if (crowd.size == 0) {
                return;
            }
            int turn = number / 8 % 8;
            int high = number / 64;
            if (turn == 7) {
                act(CHANGE, high % (MOST_LOAVES + 1));
            } else if (turn == 6 && tickets > 0) {
                act(RETURN, high % tickets);
            } else if (turn < 6 && canSell(8 * (number % crowd.size) + high % crowd.size)) {
                act(SALE, 8 * (number % crowd.size) + high % crowd.size);
            } else {
                act(IDLE, 0);
            }
        }
    }

    /** The fewest tickets to a wished line: layer by layer, rows of lesser tickets ahead, each order once. */
    private static final class Search {
        private final Line line;
        private final int[] orders = new int[ALL_ORDERS];
        private final int[] paths = new int[ALL_ORDERS];
        private final boolean[] seen = new boolean[ALL_ORDERS];
        private int reached;
        private int path;

        Search(Line line) {
            this.line = line;
        }

        /** How many tickets, or NONE; step() then tells them. */
        int fewest(int a, int b, int c) {
            for (int rank = 0; rank < seen.length; rank++) {
                seen[rank] = false;
            }
            reached = 0;
            reach(line.order, 0);
            int from = 0;
            for (int tickets = 0; tickets <= MOST_WISHED; tickets++) {
                int to = reached;
                for (int q = from; q < to && q < ALL_ORDERS; q++) {
                    if (fits(orders[q], a, b, c)) {
                        path = paths[q];
                        return tickets;
                    }
                }
                for (int q = from; q < to && q < ALL_ORDERS && tickets < MOST_WISHED; q++) {
                    goOn(orders[q], paths[q]);
                }
                from = to;
            }
            return NONE;
        }

        /** Ticket t of those (number in all) by which the latest search came to its end. */
        int step(int t, int number) {
            return path >> 6 * (number - 1 - t) & 63;
        }

        private boolean fits(int order, int a, int b, int c) {
            if (!Order.haveMet(order, line.crowd.size, a, b)) {
                return false;
            }
            line.serve(order);
            return line.serving.gainOf(c) == line.serving.wantOf(c);
        }

        private void goOn(int order, int way) {
            int size = line.crowd.size;
            for (int i = 0; i < size; i++) {
                for (int place = 0; place < size; place++) {
                    // a ticket to where its one stands already comes to an order that is seen: this one
                    reach(Order.by(order, size, 8 * i + place), way << 6 | 8 * i + place);
                }
            }
        }

        private void reach(int order, int way) {
            int rank = Order.rank(order, line.crowd.size);
            if (rank >= 0 && rank < ALL_ORDERS && !seen[rank] && reached < ALL_ORDERS) {
                seen[rank] = true;
                orders[reached] = order;
                paths[reached] = way;
                reached++;
            }
        }
    }

    /** All orders by which people got what they are known to have got. */
    private static final class Orders {
        private static final int UNKNOWN = -1, NEVER = -2;
        /** One gets 0 to 3 loaves. */
        private static final int BY_GAIN = 4;

        int total;
        private final Line line;
        private final int[] known = new int[MOST_PEOPLE];
        private final int[] possible = new int[MOST_PEOPLE];
        private final int[] parts = new int[MOST_PEOPLE * BY_GAIN];

        Orders(Line line) {
            this.line = line;
        }

        void forget() {
            total = 0;
            for (int i = 0; i < MOST_PEOPLE; i++) {
                known[i] = UNKNOWN;
                possible[i] = 0;
            }
            for (int part = 0; part < parts.length; part++) {
                parts[part] = 0;
            }
        }

        void learn(int i, int got) {
            if (i >= 0 && i < known.length) {
                known[i] = known[i] == UNKNOWN || known[i] == got ? got : NEVER;
            }
        }

        /** Tallies every order that begins with these: as many levels as there are people. */
        private static void extend(Orders orders, int order, int place, int stand) {
            int size = orders.line.crowd.size;
            if (place >= size) {
                orders.tallyOne(order);
                return;
            }
            for (int i = 0; i < size; i++) {
                if ((stand >> i & 1) == 0) {
                    extend(orders, Order.with(order, place, i), place + 1, stand | 1 << i);
                }
            }
        }

        private void tallyOne(int order) {
            line.serve(order);
            int size = line.crowd.size;
            for (int i = 0; i < size && i < known.length; i++) {
                if (known[i] != UNKNOWN && known[i] != line.serving.gainOf(i)) {
                    return;
                }
            }
            total++;
            for (int i = 0; i < size && i < possible.length; i++) {
                possible[i] |= 1 << Order.whoAt(order, i);
                int part = i * BY_GAIN + line.serving.gainOf(i);
                if (part >= 0 && part < parts.length) {
                    parts[part]++;
                }
            }
        }

        int whoCan(int place) {
            return place >= 0 && place < possible.length ? possible[place] : 0;
        }

        /** Most orders by which one got as many. */
        int greatestPart(int i) {
            int greatest = 0;
            for (int part = i * BY_GAIN; part < (i + 1) * BY_GAIN; part++) {
                if (part >= 0 && part < parts.length) {
                    greatest = Math.max(greatest, parts[part]);
                }
            }
            return greatest;
        }
    }

    /** Two who buy places by turns. */
    private static final class Match {
        private final Line line;
        private int first;
        private int second;

        Match(Line line) {
            this.line = line;
        }

        int outcome(int i, int j, int times) {
            first = i;
            second = j;
            return play(this, line.order, 2 * times);
        }

        /** By how many loaves the first one ends ahead, so many turns before the end: as many levels as turns. */
        private static int play(Match match, int order, int turns) {
            if (turns <= 0) {
                return match.leadBy(order);
            }
            boolean firsts = turns % 2 == 0;
            int mover = firsts ? match.first : match.second;
            int size = match.line.crowd.size;
            int chosen = 0;
            for (int place = 0; place < size; place++) {
                int result = play(match, Order.by(order, size, 8 * mover + place), turns - 1);
                if (place == 0 || (firsts ? result > chosen : result < chosen)) {
                    chosen = result;
                }
            }
            return chosen;
        }

        private int leadBy(int order) {
            line.serve(order);
            return line.serving.gainOf(first) - line.serving.gainOf(second);
        }
    }

    /** What comes of it if each stays at home by a share, each by itself: told of whole(). */
    private static final class Chances {
        private final Line line;
        private int size;

        Chances(Line line) {
            this.line = line;
        }

        long whole() {
            return power(SHARES, line.crowd.size);
        }

        long ofContent(int i, int p) {
            long sum = 0;
            for (int set = 0; set < 1 << line.crowd.size; set++) {
                serveSet(set);
                sum += weight(p) * (line.serving.content >> i & 1);
            }
            return sum;
        }

        long ofLeft(int p) {
            long sum = 0;
            for (int set = 0; set < 1 << line.crowd.size; set++) {
                serveSet(set);
                sum += weight(p) * line.serving.leftInTheEnd();
            }
            return sum;
        }

        private void serveSet(int set) {
            int order = 0;
            size = 0;
            for (int place = 0; place < line.crowd.size; place++) {
                int i = Order.whoAt(line.order, place);
                if ((set >> i & 1) == 1) {
                    order = Order.with(order, size, i);
                    size++;
                }
            }
            line.serving.serve(order, size, line.loaves);
        }

        /** How many of whole() fall to the set that was served last. */
        private long weight(int p) {
            return power(SHARES - p, size) * power(p, line.crowd.size - size);
        }

        private static long power(int base, int exponent) {
            long power = 1;
            for (int e = 0; e < exponent; e++) {
                power *= base;
            }
            return power;
        }
    }
}
