import java.math.BigInteger;
import java.util.ArrayList;
import java.util.Collections;
import java.util.List;
import java.util.TreeSet;

/**
 * The document once more, by other means (lists, whole states kept for each deed, plain search), so that
 * a fault would have to be made twice to stay unseen.
 */
final class Model {
    static final int BAD = -1, FULL = -2, FINDING = -3, STATE = -4, NONE = -9;
    static final String KINDS = "pscugo";

    static final class Shot {
        final List<Integer> order;
        final List<int[]> tickets;
        final int loaves;

        Shot(List<Integer> order, List<int[]> tickets, int loaves) {
            this.order = order;
            this.tickets = tickets;
            this.loaves = loaves;
        }
    }

    static final class Outcome {
        final int[] want = new int[6];
        final int[] gain = new int[6];
        final int[] behind = new int[6];
        final int[] leftThen = new int[6];
        final boolean[] away = new boolean[6];
        int left;
        int sum;
    }

    final int[][] rows = new int[6][];
    final byte[][] texts = new byte[4][];
    int people = 0;
    final char[] kinds = new char[6];
    final int[] patience = new int[6];
    /** shots.get(d) is the line ahead of deed d; the last one is the line as it is. */
    List<Shot> shots = new ArrayList<>();
    final List<List<Shot>> kept = new ArrayList<>(Collections.nCopies(3, (List<Shot>) null));
    int asked = 0;
    long upper = 0;
    long lower = 1;
    int finding = 0;
    final int[] findings = new int[6];

    Model() {
        shots.add(new Shot(List.of(), List.of(), 0));
    }

    Shot now() {
        return shots.get(shots.size() - 1);
    }

    int deeds() {
        return shots.size() - 1;
    }

    int find(int f) {
        finding = f;
        findings[f]++;
        return FINDING;
    }

    boolean isOne(int i) {
        return 0 <= i && i < people;
    }

    // ---- 1

    int row(int r, int n) {
        if (r < 0 || r > 5 || n > 40) return BAD;
        if (n < 0) return find(5);
        rows[r] = new int[n];
        return n;
    }

    int place(int r, int i) {
        if (r < 0 || r > 5) return BAD;
        if (rows[r] == null) return find(1);
        if (i < 0 || i >= rows[r].length) return find(2);
        return 1;
    }

    int lay(int r, int i, int v) {
        int answer = place(r, i);
        if (answer == 1) {
            asked = rows[r][i];
            rows[r][i] = v;
        }
        return answer;
    }

    int at(int r, int i) {
        int answer = place(r, i);
        if (answer == 1) asked = rows[r][i];
        return answer;
    }

    int tear(int r) {
        if (r < 0 || r > 5) return BAD;
        if (rows[r] == null) return find(1);
        rows[r] = null;
        return 1;
    }

    int copy(int r, int i, int to, int j, int n) {
        if (r < 0 || r > 5 || to < 0 || to > 5) return BAD;
        if (n < 0) return find(5);
        if (rows[r] == null || rows[to] == null) return find(1);
        if (i < 0 || j < 0 || (long) i + n > rows[r].length || (long) j + n > rows[to].length) return find(2);
        int[] taken = rows[r].clone();
        for (int k = 0; k < n; k++) rows[to][j + k] = taken[i + k];
        return 1;
    }

    int mean(int r) {
        if (r < 0 || r > 5) return BAD;
        if (rows[r] == null) return find(1);
        if (rows[r].length == 0) return find(4);
        BigInteger sum = BigInteger.ZERO;
        for (int v : rows[r]) sum = sum.add(BigInteger.valueOf(v));
        asked = sum.divide(BigInteger.valueOf(rows[r].length)).intValueExact();
        return 1;
    }

    int text(int t, int n) {
        if (t < 0 || t > 3 || n > 60) return BAD;
        if (n < 0) return find(5);
        texts[t] = new byte[n];
        java.util.Arrays.fill(texts[t], (byte) 32);
        return n;
    }

    int put(int t, int i, int v) {
        if (t < 0 || t > 3) return BAD;
        if (texts[t] == null) return find(1);
        if (i < 0 || i >= texts[t].length) return find(2);
        int was = texts[t][i] + 1000;
        int cut = ((v % 256) + 256) % 256;
        texts[t][i] = (byte) (cut > 127 ? cut - 256 : cut);
        return was;
    }

    /** The longest beginning from which a LINE can go on, by trying: the FAULT is its length. */
    int fault(int t) {
        if (t < 0 || t > 3) return BAD;
        if (texts[t] == null) return find(1);
        return faultOf(texts[t]);
    }

    static int faultOf(byte[] text) {
        StringBuilder signs = new StringBuilder();
        for (byte b : text) signs.append((char) (b & 255));
        String all = signs.toString();
        if (all.matches(" *q([01][0-9]|20)( *[pscugo][1-9]){1,6} *")) return NONE;
        // each beginning that is one of a LINE's, figures above 20 among them
        int good = 0;
        while (good < all.length() && canBegin(all.substring(0, good + 1))) good++;
        String begun = all.substring(0, good);
        if (begun.matches(" *q[0-9][0-9].*")) {
            int q = begun.indexOf('q');
            if (Integer.parseInt(begun.substring(q + 1, q + 3)) > 20) return q + 1;
        }
        return good;
    }

    private static boolean canBegin(String s) {
        return s.matches(" *") || s.matches(" *q[0-9]?") || s.matches(" *q[0-9][0-9]( *[pscugo][1-9]){0,6} *")
            || s.matches(" *q[0-9][0-9]( *[pscugo][1-9]){0,5} *[pscugo]");
    }

    int line(int t) {
        if (t < 0 || t > 3) return BAD;
        if (texts[t] == null) return find(1);
        if (faultOf(texts[t]) != NONE) return STATE;
        String all = new String(texts[t], java.nio.charset.StandardCharsets.ISO_8859_1).replace(" ", "");
        people = (all.length() - 3) / 2;
        List<Integer> order = new ArrayList<>();
        for (int i = 0; i < people; i++) {
            kinds[i] = all.charAt(3 + 2 * i);
            patience[i] = all.charAt(4 + 2 * i) - '0';
            order.add(i);
        }
        shots = new ArrayList<>();
        shots.add(new Shot(order, List.of(), Integer.parseInt(all.substring(1, 3))));
        for (int k = 0; k < 3; k++) kept.set(k, null);
        return people;
    }

    boolean soldier(int i) {
        return kinds[i] == 's' || kinds[i] == 'g';
    }

    boolean child(int i) {
        return kinds[i] == 'c' || kinds[i] == 'o';
    }

    int want(int i, boolean last) {
        if (kinds[i] == 'g') return 3;
        if (kinds[i] == 'u') return 2;
        if (kinds[i] == 'c') return 0;
        if (kinds[i] == 'o') return last ? 1 : 0;
        return 1;
    }

    Outcome serve(List<Integer> order, int loaves) {
        Outcome out = new Outcome();
        out.left = loaves;
        List<Integer> queue = new ArrayList<>();
        for (int i : order) if (soldier(i)) queue.add(i);
        for (int i : order) if (!soldier(i)) queue.add(i);
        for (int turn = 0; turn < queue.size(); turn++) {
            int i = queue.get(turn);
            out.want[i] = want(i, order.get(order.size() - 1) == i);
            out.behind[i] = turn;
            out.leftThen[i] = out.left;
            out.away[i] = turn > patience[i];
            if (!out.away[i]) out.gain[i] = Math.min(out.want[i], out.left);
            out.left -= out.gain[i];
            out.sum += out.gain[i];
        }
        return out;
    }

    Outcome serveNow() {
        return serve(now().order, now().loaves);
    }

    int oneTells(int i, int what) {
        List<Integer> order = now().order;
        int place = order.indexOf(i);
        Outcome out = serveNow();
        switch (what) {
            case 0: return KINDS.indexOf(kinds[i]);
            case 1: return patience[i];
            case 2: return place;
            case 3: return out.want[i];
            case 4: return out.gain[i];
            case 5: return out.behind[i];
            default:
                int met = 0;
                if (place > 0) met += 1 << order.get(place - 1);
                if (place < people - 1) met += 1 << order.get(place + 1);
                return met;
        }
    }

    int one(int i, int what) {
        if (!isOne(i) || what < 0 || what > 6) return BAD;
        asked = oneTells(i, what);
        return 1;
    }

    int mark(int i, int kind) {
        if (!isOne(i) || kind < 1 || kind > 5) return BAD;
        boolean is = kind == 1 ? soldier(i) : kind == 2 ? child(i) : kinds[i] == KINDS.charAt(kind);
        if (!is) return find(3);
        Outcome out = serveNow();
        int place = now().order.indexOf(i);
        if (kind == 1) {
            int n = 0;
            for (int j : now().order.subList(0, place)) if (out.behind[j] > out.behind[i]) n++;
            return n;
        }
        if (kind == 3) return out.leftThen[i];
        if (kind == 4) return out.want[i] - out.gain[i];
        return people - 1 - place;
    }

    // ---- 2

    static List<Integer> moved(List<Integer> order, int i, int place) {
        List<Integer> out = new ArrayList<>(order);
        out.remove((Integer) i);
        out.add(place, i);
        return out;
    }

    Shot sell(Shot shot, int i, int place) {
        List<int[]> tickets = new ArrayList<>(shot.tickets);
        tickets.add(new int[] {i, place});
        return new Shot(moved(shot.order, i, place), tickets, shot.loaves);
    }

    Shot giveBack(Shot shot, int k) {
        List<Integer> order = shots.get(0).order;
        List<int[]> tickets = new ArrayList<>();
        for (int t = 0; t < shot.tickets.size(); t++) {
            int[] ticket = shot.tickets.get(t);
            if (t == k || t > k && order.indexOf(ticket[0]) == ticket[1]) continue;
            tickets.add(ticket);
            order = moved(order, ticket[0], ticket[1]);
        }
        return new Shot(order, tickets, shot.loaves);
    }

    boolean sellable(Shot shot, int i, int place) {
        return shot.tickets.size() < 12 && shot.order.get(place) != i;
    }

    int ticket(int i, int place) {
        if (!isOne(i) || !isOne(place)) return BAD;
        if (!sellable(now(), i, place)) return STATE;
        if (deeds() >= 40) return FULL;
        shots.add(sell(now(), i, place));
        return now().tickets.size() - 1;
    }

    int back(int k) {
        if (k < 0 || k >= now().tickets.size()) return BAD;
        if (deeds() >= 40) return FULL;
        int before = now().tickets.size();
        shots.add(giveBack(now(), k));
        return before - 1 - now().tickets.size();
    }

    int loaves(int n) {
        if (n < 0 || n > 20) return BAD;
        if (people == 0 || now().loaves == n) return STATE;
        if (deeds() >= 40) return FULL;
        int was = now().loaves;
        shots.add(new Shot(now().order, now().tickets, n));
        return was;
    }

    int undo(int n) {
        if (n < 0 || n > deeds()) return BAD;
        int undone = deeds() - n;
        shots = new ArrayList<>(shots.subList(0, n + 1));
        return undone;
    }

    int keep(int k) {
        if (k < 0 || k > 2) return BAD;
        if (people == 0) return STATE;
        kept.set(k, new ArrayList<>(shots));
        return deeds();
    }

    int on(int k) {
        if (k < 0 || k > 2) return BAD;
        if (kept.get(k) == null) return find(1);
        shots = new ArrayList<>(kept.get(k));
        return deeds();
    }

    // ---- 3

    int who(int place) {
        return isOne(place) ? now().order.get(place) : BAD;
    }

    int sold(int k, int what) {
        if (k < 0 || k >= now().tickets.size() || what < 0 || what > 1) return BAD;
        return now().tickets.get(k)[what];
    }

    int wants(int i, int place) {
        return isOne(i) && isOne(place) ? want(i, place == people - 1) : BAD;
    }

    int gets(int i, int place) {
        if (!isOne(i) || !isOne(place)) return BAD;
        return serve(moved(now().order, i, place), now().loaves).gain[i];
    }

    int best(int i) {
        if (!isOne(i)) return BAD;
        int most = -1;
        for (int place = 0; place < people; place++) most = Math.max(most, gets(i, place));
        asked = most;
        for (int place = 0; place < people; place++) if (gets(i, place) == most) return place;
        return BAD;
    }

    int falls(int k) {
        if (k < 0 || k >= now().tickets.size()) return BAD;
        return now().tickets.size() - 1 - giveBack(now(), k).tickets.size();
    }

    // ---- 4

    int wish(int a, int b, int c, int r) {
        if (!isOne(a) || !isOne(b) || !isOne(c) || a == b || r < 0 || r > 5) return BAD;
        for (int n = 0; n <= 3; n++) {
            List<Integer> row = firstWish(now().order, a, b, c, n);
            if (row != null) {
                rows[r] = row.stream().mapToInt(v -> v).toArray();
                return n;
            }
        }
        return NONE;
    }

    List<Integer> firstWish(List<Integer> order, int a, int b, int c, int n) {
        if (n == 0) {
            if (Math.abs(order.indexOf(a) - order.indexOf(b)) != 1) return null;
            Outcome out = serve(order, now().loaves);
            return out.gain[c] == out.want[c] ? new ArrayList<>() : null;
        }
        for (int i = 0; i < people; i++) {
            for (int place = 0; place < people; place++) {
                if (order.get(place) == i) continue;
                List<Integer> rest = firstWish(moved(order, i, place), a, b, c, n - 1);
                if (rest != null) {
                    rest.add(0, 8 * i + place);
                    return rest;
                }
            }
        }
        return null;
    }

    // ---- 5

    int pairs(int r) {
        if (rows[r] == null) return 1;
        int n = rows[r].length;
        if (n % 2 == 1 || n / 2 > 8) return 5;
        for (int k = 0; k < n; k++) {
            int v = rows[r][k];
            if (k % 2 == 0 ? !isOne(v) : v < 0 || v > 9) return 3;
        }
        return 0;
    }

    List<List<Integer>> possible(int r) {
        List<List<Integer>> all = new ArrayList<>();
        all.add(new ArrayList<>());
        for (int i = 0; i < people; i++) {
            List<List<Integer>> more = new ArrayList<>();
            for (List<Integer> order : all) {
                for (int at = 0; at <= order.size(); at++) {
                    List<Integer> longer = new ArrayList<>(order);
                    longer.add(at, i);
                    more.add(longer);
                }
            }
            all = more;
        }
        List<List<Integer>> fit = new ArrayList<>();
        for (List<Integer> order : all) {
            Outcome out = serve(order, now().loaves);
            boolean fits = true;
            for (int k = 0; k + 1 < rows[r].length; k += 2) fits &= out.gain[rows[r][k]] == rows[r][k + 1];
            if (fits) fit.add(order);
        }
        return fit;
    }

    int lines(int r) {
        if (r < 0 || r > 5) return BAD;
        if (people == 0) return STATE;
        if (pairs(r) != 0) return find(pairs(r));
        upper = possible(r).size();
        lower = 1;
        return 1;
    }

    int can(int r, int place) {
        if (r < 0 || r > 5 || !isOne(place)) return BAD;
        if (pairs(r) != 0) return find(pairs(r));
        int bits = 0;
        for (List<Integer> order : possible(r)) bits |= 1 << order.get(place);
        return bits;
    }

    int next(int r) {
        if (r < 0 || r > 5) return BAD;
        if (people == 0) return STATE;
        if (pairs(r) != 0) return find(pairs(r));
        int[][] parts = new int[6][10];
        List<List<Integer>> fit = possible(r);
        if (fit.isEmpty()) return NONE;
        for (List<Integer> order : fit) {
            Outcome out = serve(order, now().loaves);
            for (int i = 0; i < people; i++) parts[i][out.gain[i]]++;
        }
        int chosen = -1;
        int least = Integer.MAX_VALUE;
        for (int i = 0; i < people; i++) {
            int greatest = java.util.Arrays.stream(parts[i]).max().getAsInt();
            if (greatest < least) {
                least = greatest;
                chosen = i;
            }
        }
        asked = least;
        return chosen;
    }

    // ---- 6

    TreeSet<Integer> setsOf(int v) {
        TreeSet<Integer> sets = new TreeSet<>();
        Outcome out = serveNow();
        for (int set = 0; set < 1 << people; set++) {
            int sum = 0;
            for (int i = 0; i < people; i++) if ((set & 1 << i) != 0) sum += out.want[i];
            if (sum == v) sets.add(set);
        }
        return sets;
    }

    int sets(int v) {
        if (v < 0 || v > 20) return BAD;
        if (people == 0) return STATE;
        TreeSet<Integer> sets = setsOf(v);
        upper = sets.size();
        lower = 1;
        asked = sets.isEmpty() ? NONE : sets.first();
        return 1;
    }

    int sure(int v) {
        if (v < 0 || v > 20) return BAD;
        if (people == 0) return STATE;
        TreeSet<Integer> sets = setsOf(v);
        if (sets.isEmpty()) return find(4);
        int each = 0;
        int none = 0;
        for (int i = 0; i < people; i++) {
            int bit = 1 << i;
            if (sets.stream().allMatch(set -> (set & bit) != 0)) each |= bit;
            if (sets.stream().noneMatch(set -> (set & bit) != 0)) none |= bit;
        }
        asked = none;
        return each;
    }

    // ---- 7

    int duel(int i, int j, int n) {
        if (!isOne(i) || !isOne(j) || i == j || n < 0 || n > 2) return BAD;
        asked = forMover(now().order, i, j, 2 * n);
        return 1;
    }

    /** How many more the one to move gets than the other one. */
    int forMover(List<Integer> order, int mover, int other, int turns) {
        if (turns == 0) {
            Outcome out = serve(order, now().loaves);
            return out.gain[mover] - out.gain[other];
        }
        int most = -100;
        for (int place = 0; place < people; place++) {
            most = Math.max(most, -forMover(moved(order, mover, place), other, mover, turns - 1));
        }
        return most;
    }

    // ---- 8

    void ratio(BigInteger up, BigInteger low) {
        BigInteger divisor = up.gcd(low);
        upper = up.divide(divisor).longValueExact();
        lower = low.divide(divisor).longValueExact();
    }

    BigInteger power(int base, int e) {
        return BigInteger.valueOf(base).pow(e);
    }

    int odds(int i, int p) {
        if (!isOne(i) || p < 0 || p > 12) return BAD;
        BigInteger sum = BigInteger.ZERO;
        for (int set = 0; set < 1 << people; set++) {
            List<Integer> there = there(set);
            if (!there.contains(i)) continue;
            Outcome out = serve(there, now().loaves);
            if (out.want[i] > 0 && out.gain[i] == out.want[i]) sum = sum.add(weight(there.size(), p));
        }
        ratio(sum, power(12, people));
        return 1;
    }

    int mid(int p) {
        if (p < 0 || p > 12) return BAD;
        if (people == 0) return STATE;
        BigInteger sum = BigInteger.ZERO;
        for (int set = 0; set < 1 << people; set++) {
            List<Integer> there = there(set);
            sum = sum.add(weight(there.size(), p).multiply(BigInteger.valueOf(serve(there, now().loaves).left)));
        }
        ratio(sum, power(12, people));
        return 1;
    }

    List<Integer> there(int set) {
        List<Integer> there = new ArrayList<>();
        for (int i : now().order) if ((set & 1 << i) != 0) there.add(i);
        return there;
    }

    BigInteger weight(int there, int p) {
        return power(12 - p, there).multiply(power(p, people - there));
    }

    int lots(int n, int seed) {
        if (n < 1 || n > 20 || seed < 1 || seed > 2147483646) return BAD;
        if (people == 0) return STATE;
        if (deeds() + n > 40) return FULL;
        BigInteger x = BigInteger.valueOf(seed);
        for (int k = 0; k < n; k++) {
            x = x.multiply(BigInteger.valueOf(48271)).mod(BigInteger.valueOf(2147483647));
            int it = x.intValueExact();
            Shot shot = now();
            int what = it / 8 % 8;
            if (what <= 5) {
                int i = it % people;
                int place = it / 64 % people;
                if (sellable(shot, i, place)) shot = sell(shot, i, place);
            } else if (what == 6) {
                if (!shot.tickets.isEmpty()) shot = giveBack(shot, it / 64 % shot.tickets.size());
            } else {
                shot = new Shot(shot.order, shot.tickets, it / 64 % 21);
            }
            shots.add(shot);
        }
        return serveNow().sum;
    }

    // ---- 9

    int count(int what) {
        Outcome out = serveNow();
        int bits = 0;
        int n = 0;
        switch (what) {
            case 0: return people;
            case 1: return now().loaves;
            case 2: return now().tickets.size();
            case 3: return deeds();
            case 4:
                for (int i = 0; i < people; i++) if (out.away[i]) bits |= 1 << i;
                return bits;
            case 5: return out.sum;
            case 6:
                for (int i = 0; i < people; i++) if (out.want[i] > 0 && out.gain[i] == out.want[i]) bits |= 1 << i;
                return bits;
            case 7:
                for (int i = 0; i < people; i++) if (soldier(i)) n++;
                return n;
            case 8:
                for (int i = 0; i < people; i++) if (child(i)) n++;
                return n;
            case 9:
                for (int[] row : rows) if (row != null) n++;
                return n;
            case 10:
                for (byte[] text : texts) if (text != null) n++;
                return n;
            case 11:
                for (List<Shot> line : kept) if (line != null) n++;
                return n;
            default: return BAD;
        }
    }

    int findings(int f) {
        return f >= 1 && f <= 5 ? findings[f] : BAD;
    }

    long digest() {
        List<Integer> told = new ArrayList<>();
        for (int what = 0; what <= 11; what++) told.add(count(what));
        for (int i = 0; i < people; i++) for (int what = 0; what <= 6; what++) told.add(oneTells(i, what));
        for (int[] ticket : now().tickets) {
            told.add(ticket[0]);
            told.add(ticket[1]);
        }
        for (List<Shot> line : kept) told.add(line == null ? -1 : line.size() - 1);
        for (int[] row : rows) {
            told.add(row == null ? -1 : row.length);
            if (row != null) for (int v : row) told.add(v);
        }
        for (byte[] text : texts) {
            told.add(text == null ? -1 : text.length);
            if (text != null) for (byte v : text) told.add((int) v);
        }
        long h = 17;
        for (int v : told) h = 31 * h + v;
        return h;
    }
}
