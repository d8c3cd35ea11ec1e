/** What would come of a ticket, and what may have been: promises 23, 24, 26 to 32. */
final class AsideSentences extends Sentences {
    AsideSentences(Document document) {
        super(document);
    }

    @Override
    void all() {
        asides();
        gets();
        best();
        fewestTickets();
        firstRow();
        wishFromTheLineAsItIs();
        wishBeyondTwelve();
        wishOfNone();
        wishBad();
        noneLeavesTheRow();
        lines();
        can();
        next();
        pairs();
        pairsRefused();
        loavesAsTheyAre();
        sets();
        sure();
        duel();
        duelBad();
    }

    private void asides() {
        terms("(aside).");
        line(SIX);
        call("ticket", 0, 1);
        call("ticket", 1, 1);
        call("keep", 1);
        call("mid", 5);
        row(2, 4, 18);
        int found = call("finding");
        long digest = digest();
        answers(0, "who", 0);
        answers(1, "sold", 1, 0);
        answers(2, "wants", 3, 0);
        answers(2, "gets", 3, 0);
        answers(0, "best", 3);
        answers(1, "falls", 0);
        answers(2, "wish", 0, 5, 3, 2);
        answers(found, "finding");
        Check.due("digest()", digest(), digest);
        answers(2, "asked");
        call("undo", 1);
        stand("102345");
    }

    private void gets() {
        promise(23, "How many LOAVES one would GET, were there one TICKET more by which it stands at a PLACE (perhaps its own).");
        line(SIX);
        answers(0, "gets", 3, 3);
        answers(2, "gets", 3, 0);
        answers(0, "gets", 5, 4);
        answers(1, "gets", 5, 5);
        answers(1, "gets", 0, 2);
        answers(0, "gets", 0, 5);
        // as the loaves and the line are now
        call("loaves", 4);
        answers(0, "gets", 3, 0);
        call("loaves", 5);
        answers(1, "gets", 3, 0);
        call("ticket", 5, 0);
        answers(0, "gets", 5, 0);
        answers(1, "count", 2);
        stand("501234");
        // twelve tickets, forty deeds: as if
        again("q01p9p9");
        ticketsUpTo(12);
        deedsUpTo(40);
        answers(1, "count", 1);
        answers(1, "gets", 1, 0);
        answers(0, "gets", 1, 1);
        answers(12, "count", 2);
        answers(40, "count", 3);
        promise(23, "BAD.");
        refuses(BAD, "gets", 0, 0);
        line("q05p1p2");
        answers(1, "gets", 0, 0);
        answers(1, "gets", 1, 1);
        refuses(BAD, "gets", -1, 0);
        refuses(BAD, "gets", 2, 0);
        refuses(BAD, "gets", 0, -1);
        refuses(BAD, "gets", 0, 2);
        refuses(BAD, "gets", LEAST, MOST);
    }

    private void best() {
        promise(24, "The PLACE (the first) at which one would GET most so; how many by asked().");
        line("q07g9u9p9o9");
        bestIs(1, 2, 0);
        bestIs(3, 1, 3);
        bestIs(0, 3, 0);
        call("loaves", 3);
        // none is left for it anywhere: the first place
        bestIs(1, 0, 0);
        bestIs(3, 0, 0);
        call("loaves", 0);
        bestIs(0, 0, 0);
        again("q01p9p9p9");
        call("ticket", 2, 0);
        bestIs(2, 1, 0);
        bestIs(1, 1, 0);
        // of patience 1 it gets nothing from the third place on, nor the orphan ahead of the last one
        again("q20p9p1o9");
        bestIs(1, 1, 0);
        bestIs(2, 1, 2);
        again("q05p9o9");
        bestIs(1, 1, 1);
        again("q01o1");
        bestIs(0, 1, 0);
        stand("0");
        promise(24, "BAD.");
        refuses(BAD, "best", 0);
        line("q05p1p2");
        bestIs(1, 1, 0);
        refuses(BAD, "best", -1);
        refuses(BAD, "best", 2);
        refuses(BAD, "best", LEAST);
        refuses(BAD, "best", MOST);
    }

    private void bestIs(int i, int most, int place) {
        answers(place, "best", i);
        Check.due("best(" + i + ") by asked()", call("asked"), most);
    }

    // ---- 4 to have been

    private void fewestTickets() {
        promise(26, "The fewest TICKETS more (0 .. 3;");
        line(SIX);
        answers(0, "wish", 0, 1, 4, 1);
        holds(1);
        answers(0, "wish", 1, 0, 0, 1);
        answers(0, "wish", 1, 0, 1, 1);
        answers(1, "wish", 2, 4, 5, 1);
        holds(1, 19);
        answers(2, "wish", 0, 5, 3, 1);
        holds(1, 4, 18);
        again("q04s2u3u3s3c1g1");
        answers(3, "wish", 5, 2, 2, 0);
        holds(0, 10, 24, 42);
        // four would be needed, and then, one being bought, three
        again("q04s2s1s5c3u4s5");
        refuses(NONE, "wish", 5, 2, 4, 0);
        answers(0, "ticket", 4, 3);
        answers(3, "wish", 5, 2, 4, 0);
    }

    private void firstRow() {
        promise(26, "by which a and b have MET, and c GETS what it WANTS where it stands (perhaps 0); the first such row "
            + "(for each 8 times the one, and the PLACE; lesser ones ahead; none whose one stands there already) comes to a ROW (anew).");
        // 0 beside 2: 0 to 1 is the same line as 1 to 0, and is the lesser ticket
        line("q03p9p9p9");
        row(4, 7, 7, 7, 7);
        answers(1, "wish", 0, 2, 1, 4);
        holds(4, 1);
        answers(1, "wish", 2, 0, 1, 4);
        answers(0, "count", 2);
        answers(0, "count", 3);
        stand("012");
        // 0 stands at 0 already: there is no ticket 0
        again("q01p9p9");
        answers(1, "wish", 0, 1, 1, 0);
        holds(0, 1);
        // who is turned away wants its loaf yet; a child that wants none gets what it wants
        again("q20p9p9p9p1c1");
        answers(1, "wish", 0, 1, 3, 0);
        holds(0, 24);
        answers(0, "wish", 0, 1, 4, 0);
        // an orphan wants where it stands: one at the last place, where none is left for it
        again("q02p9p9o9");
        answers(1, "wish", 0, 1, 2, 0);
        holds(0, 16);
        again("q03p9p9o9");
        answers(0, "wish", 0, 1, 2, 5);
        holds(5);
    }

    private void wishFromTheLineAsItIs() {
        promise(26, "by which a and b have MET, and c GETS what it WANTS where it stands");
        line("q20p9p9p9");
        answers(0, "wish", 0, 1, 2, 0);
        call("ticket", 0, 2);
        call("ticket", 2, 1);
        // 1 2 0: they do not stand side by side now
        answers(1, "wish", 0, 1, 2, 0);
        holds(0, 0);
        // the first order of six, and the last one
        again("q20p9p9p9p9p9p9");
        answers(0, "wish", 0, 1, 2, 0);
        answers(1, "wish", 0, 2, 2, 0);
        for (int i = 5; i >= 1; i--) {
            call("ticket", i, 5 - i);
        }
        stand("543210");
        answers(0, "wish", 0, 1, 2, 0);
        answers(1, "wish", 0, 2, 2, 0);
        holds(0, 3);
        answers(1, "wish", 5, 0, 2, 0);
        holds(0, 0);
    }

    private void wishBeyondTwelve() {
        promise(26, "as many as there may be, beyond 12 as well)");
        line("q01p9p9p9");
        ticketsUpTo(12);
        answers(1, "wish", 0, 2, 2, 0);
        holds(0, 16);
        deedsUpTo(40);
        answers(1, "count", 1);
        answers(1, "wish", 0, 2, 2, 0);
        answers(40, "count", 3);
    }

    private void wishOfNone() {
        promise(26, "NONE: by no three.");
        line("q00p9p9");
        refuses(NONE, "wish", 0, 1, 1, 0);
        again("q03u1u1u1s1s1p1");
        refuses(NONE, "wish", 3, 5, 2, 0);
        again("q05s9p1");
        answers(0, "wish", 0, 1, 1, 0);
    }

    private void wishBad() {
        promise(26, "BAD (also a and b the same).");
        refuses(BAD, "wish", 0, 1, 0, 0);
        line("q05p1p2");
        answers(0, "wish", 0, 1, 0, 0);
        answers(0, "wish", 1, 0, 1, 5);
        refuses(BAD, "wish", 0, 0, 1, 0);
        refuses(BAD, "wish", 1, 1, 1, 0);
        refuses(BAD, "wish", -1, 1, 0, 0);
        refuses(BAD, "wish", 2, 1, 0, 0);
        refuses(BAD, "wish", 0, -1, 0, 0);
        refuses(BAD, "wish", 0, 2, 0, 0);
        refuses(BAD, "wish", 0, 1, -1, 0);
        refuses(BAD, "wish", 0, 1, 2, 0);
        refuses(BAD, "wish", 0, 1, 0, -1);
        refuses(BAD, "wish", 0, 1, 0, 6);
        refuses(BAD, "wish", LEAST, MOST, LEAST, MOST);
        again("q05p1");
        refuses(BAD, "wish", 0, 0, 0, 0);
    }

    private void noneLeavesTheRow() {
        terms("NONE -9 (as an answer: a ROW that would come anew stays).");
        line("q00p9p9");
        row(1, 7, 8);
        answers(NONE, "wish", 0, 1, 1, 1);
        holds(1, 7, 8);
        answers(NONE, "wish", 0, 1, 1, 2);
        finds(NOTHING, "at", 2, 0);
        answers(1, "count", 9);
        row(1, 0, 1);
        call("at", 1, 1);
        answers(NONE, "next", 1);
        answers(1, "asked");
        tells(NONE, "sets", 5);
        write(3, "q05p1");
        answers(NONE, "fault", 3);
    }

    // ---- 5 by what they got

    private void lines() {
        promise(27, "How many orders of all PEOPLE there can be by these, told by upper() (lower() is 1): 1.");
        line("q01p9p9p9");
        row(0);
        tellsRatio(6, 1, "lines", 0);
        row(0, 0, 1);
        tellsRatio(2, 1, "lines", 0);
        row(0, 0, 0);
        tellsRatio(4, 1, "lines", 0);
        row(0, 0, 0, 1, 0, 2, 1);
        tellsRatio(2, 1, "lines", 0);
        row(0, 0, 1, 2, 1);
        tellsRatio(0, 1, "lines", 0);
        row(0, 0, 1, 0, 0);
        tellsRatio(0, 1, "lines", 0);
        row(0, 0, 0, 0, 0);
        tellsRatio(4, 1, "lines", 0);
        int[] orders = {1, 2, 6, 24, 120, 720};
        for (int n = 1; n <= 6; n++) {
            again("q05" + "p9p9p9p9p9p9".substring(0, 2 * n));
            row(5);
            tellsRatio(orders[n - 1], 1, "lines", 5);
        }
        promise(27, "BAD; STATE: no PEOPLE; NOTHING; SIZE; UNLIKE. (In this order.)");
        row(1, 1);
        row(2, 9, 9);
        refuses(BAD, "lines", -1);
        refuses(BAD, "lines", 6);
        refuses(STATE, "lines", 0);
        refuses(STATE, "lines", 1);
        refuses(STATE, "lines", 2);
        line("q01p9p9");
        askedOfPairs("lines");
    }

    /** The refusals that lines, can and next share, of two people. */
    private void askedOfPairs(String name, int... place) {
        row(1, 1);
        row(2, 9, 9);
        row(3, 0, 9);
        row(4, 9, 10, 9);
        row(5, 1, 0);
        refuses(BAD, name, with(-1, place));
        refuses(BAD, name, with(6, place));
        refuses(BAD, name, with(LEAST, place));
        refuses(BAD, name, with(MOST, place));
        finds(NOTHING, name, with(0, place));
        finds(SIZE, name, with(1, place));
        finds(SIZE, name, with(4, place));
        finds(UNLIKE, name, with(2, place));
        Check.that("not refused", call(name, with(3, place)) != FINDING);
        Check.that("not refused", call(name, with(5, place)) != FINDING);
    }

    private static int[] with(int r, int... place) {
        return place.length == 0 ? new int[] {r} : new int[] {r, place[0]};
    }

    private void can() {
        promise(28, "Who (bits) can stand at a PLACE (such as there is) in these orders.");
        line("q01p9p9p9");
        row(0, 0, 0);
        answers(6, "can", 0, 0);
        answers(7, "can", 0, 1);
        answers(7, "can", 0, 2);
        row(0, 0, 1);
        answers(1, "can", 0, 0);
        answers(6, "can", 0, 1);
        row(0, 0, 2);
        answers(0, "can", 0, 0);
        row(0);
        answers(7, "can", 0, 0);
        row(0, 0, 0, 1, 0);
        answers(4, "can", 0, 0);
        answers(3, "can", 0, 2);
        // whatever the tickets
        call("ticket", 2, 0);
        answers(3, "can", 0, 1);
        again("q05o9");
        row(0);
        answers(1, "can", 0, 0);
        promise(28, "BAD; NOTHING; SIZE; UNLIKE. (In this order.)");
        row(1, 1);
        refuses(BAD, "can", 0, 0);
        refuses(BAD, "can", 1, 0);
        line("q01p9p9");
        askedOfPairs("can", 0);
        for (int r = 0; r <= 4; r++) {
            refuses(BAD, "can", r, -1);
            refuses(BAD, "can", r, 2);
        }
        answers(1, "can", 5, 0);
        answers(2, "can", 5, 1);
        refuses(BAD, "can", 5, LEAST);
        refuses(BAD, "can", 5, MOST);
    }

    private void next() {
        promise(29, "Of whom to ask how many LOAVES it got (the first): the greatest part of these orders by which it got as many is least; "
            + "that part by asked().");
        line("q01p9p9p9");
        row(0);
        nextIs(0, 4, 0);
        row(0, 0, 0);
        nextIs(1, 2, 0);
        row(0, 2, 1);
        nextIs(0, 2, 0);
        again("q01g9s9p9");
        row(0);
        // the general and the soldier get it by turns, the person never
        nextIs(0, 3, 0);
        // as many as one can get, and the last one of as many as there can be
        again("q20g9");
        row(0);
        nextIs(0, 1, 0);
        again("q20p9p9p9p9p9g9");
        row(0);
        nextIs(0, 720, 0);
        again("q02g9g9g9g9g9p9");
        row(0);
        // the first general gets both
        nextIs(0, 576, 0);
        // each by its own parts, not by its neighbour's
        again("q01p9c9p9");
        row(0);
        nextIs(0, 3, 0);
        again("q04g9p9p9");
        row(0);
        nextIs(1, 3, 0);
        again("q02u9g9");
        row(3);
        nextIs(0, 2, 3);
        again("q05p1");
        row(3);
        nextIs(0, 1, 3);
        promise(29, "NONE: there is no order.");
        line("q01p9p9");
        row(0, 0, 2);
        refuses(NONE, "next", 0);
        row(0, 0, 1, 1, 1);
        refuses(NONE, "next", 0);
        row(0, 0, 1, 1, 0);
        nextIs(0, 1, 0);
        promise(29, "BAD; STATE; NOTHING; SIZE; UNLIKE. (In this order.)");
        row(1, 1);
        row(2, 9, 9);
        refuses(BAD, "next", -1);
        refuses(BAD, "next", 6);
        refuses(STATE, "next", 0);
        refuses(STATE, "next", 1);
        refuses(STATE, "next", 2);
        line("q01p9p9");
        askedOfPairs("next");
    }

    private void nextIs(int i, int part, int r) {
        answers(i, "next", r);
        Check.due("next(" + r + ") by asked()", call("asked"), part);
    }

    private void pairs() {
        terms("a ROW of pairs, 0 to 8: one of PEOPLE, how many LOAVES it got 0 .. 9");
        line("q01p9p9p9");
        for (int pairs = 0; pairs <= 8; pairs++) {
            call("row", 0, 2 * pairs);
            tellsRatio(pairs == 0 ? 6 : 4, 1, "lines", 0);
        }
        for (int size = 1; size <= 21; size++) {
            if (size % 2 == 1 || size > 16) {
                call("row", 0, size);
                finds(SIZE, "lines", 0);
            }
        }
        call("row", 0, 40);
        finds(SIZE, "next", 0);
        finds(SIZE, "can", 0, 0);
        terms("a ROW of pairs, 0 to 8: one of PEOPLE, how many LOAVES it got 0 .. 9");
        line("q01p9p9p9");
        for (int got = 0; got <= 9; got++) {
            row(0, 1, got);
            tellsRatio(got == 0 ? 4 : got == 1 ? 2 : 0, 1, "lines", 0);
        }
        for (int got : new int[] {-1, 10, LEAST, MOST}) {
            row(0, 1, got);
            finds(UNLIKE, "lines", 0);
            finds(UNLIKE, "can", 0, 0);
            finds(UNLIKE, "next", 0);
        }
        for (int i = 0; i < 3; i++) {
            row(0, i, 1);
            answers(1 << i, "can", 0, 0);
        }
        for (int i : new int[] {-1, 3, LEAST, MOST}) {
            row(0, i, 1);
            finds(UNLIKE, "lines", 0);
        }
    }

    private void pairsRefused() {
        terms("NOTHING; SIZE; UNLIKE; behind BAD, STATE)");
        line("q01p9p9p9");
        finds(NOTHING, "lines", 0);
        // the size ahead of what is in it, and the last pair as well as the first one
        row(0, 9, 9, 9);
        finds(SIZE, "lines", 0);
        row(0, 0, 0, 0, 0, 0, 0, 0, 0, 0, 0, 0, 0, 0, 0, 3, 0);
        finds(UNLIKE, "lines", 0);
        row(0, 0, 0, 0, 0, 0, 0, 0, 0, 0, 0, 0, 0, 0, 0, 0, 10);
        finds(UNLIKE, "next", 0);
        row(0, 9, 0, 0, 0, 0, 0, 0, 0, 0, 0, 0, 0, 0, 0, 0, 0, 0, 0);
        finds(SIZE, "can", 0, 0);
        // one that is no number of PEOPLE ahead of a number that would fit none
        row(0, 3, 10);
        finds(UNLIKE, "lines", 0);
        row(0, 10, 3);
        finds(UNLIKE, "lines", 0);
    }

    private void loavesAsTheyAre() {
        terms("LOAVES as many as there are:");
        line("q01p9p9p9");
        row(0, 0, 0);
        tellsRatio(4, 1, "lines", 0);
        call("loaves", 2);
        tellsRatio(2, 1, "lines", 0);
        answers(1, "can", 0, 2);
        nextIs(0, 2, 0);
        call("loaves", 3);
        tellsRatio(0, 1, "lines", 0);
        call("loaves", 0);
        tellsRatio(6, 1, "lines", 0);
        call("undo", 0);
        tellsRatio(4, 1, "lines", 0);
    }

    // ---- 6 whose wants

    private void sets() {
        promise(30, "How many sets of PEOPLE (that of none, too) WANT v (0 .. 20) LOAVES together, as they stand, "
            + "told by upper() (lower() is 1); the first (the least as bits) by asked() (bits; NONE): 1.");
        line("q00p1c1u1");
        setsAre(0, 2, 0);
        setsAre(1, 2, 1);
        setsAre(2, 2, 4);
        setsAre(3, 2, 5);
        setsAre(4, 0, NONE);
        setsAre(20, 0, NONE);
        again("q05g9g9g9g9g9g9");
        setsAre(18, 1, 63);
        setsAre(15, 6, 31);
        setsAre(0, 1, 0);
        setsAre(19, 0, NONE);
        again("q05c1c1c1c1c1c1");
        setsAre(0, 64, 0);
        setsAre(1, 0, NONE);
        // as they stand: an orphan wants one at the last place alone
        again("q05o1o1");
        setsAre(1, 2, 2);
        call("ticket", 0, 1);
        setsAre(1, 2, 1);
        promise(30, "BAD; STATE: no PEOPLE.");
        refuses(STATE, "sets", 0);
        refuses(STATE, "sets", 20);
        refuses(BAD, "sets", -1);
        refuses(BAD, "sets", 21);
        line("q05p1");
        setsAre(0, 1, 0);
        setsAre(20, 0, NONE);
        refuses(BAD, "sets", -1);
        refuses(BAD, "sets", 21);
        refuses(BAD, "sets", LEAST);
        refuses(BAD, "sets", MOST);
    }

    private void setsAre(int v, int number, int first) {
        tells(first, "sets", v);
        Check.due("sets(" + v + ") by upper()", call("upper"), number);
        Check.due("sets(" + v + ") by lower()", call("lower"), 1);
    }

    private void sure() {
        promise(31, "PEOPLE (bits) that are in each such set; those in none by asked().");
        line("q00p1c1u1");
        sureAre(0, 0, 5);
        sureAre(1, 1, 4);
        sureAre(2, 4, 1);
        sureAre(3, 5, 0);
        again("q05g9p9p9c9");
        sureAre(1, 0, 1);
        sureAre(4, 1, 0);
        sureAre(5, 7, 0);
        again("q05c9");
        sureAre(0, 0, 0);
        promise(31, "BAD; STATE; NOUGHT: there is no set. (In this order.)");
        refuses(STATE, "sure", 0);
        refuses(STATE, "sure", 20);
        refuses(BAD, "sure", -1);
        refuses(BAD, "sure", 21);
        line("q00p1c1u1");
        finds(NOUGHT, "sure", 4);
        finds(NOUGHT, "sure", 20);
        refuses(BAD, "sure", -1);
        refuses(BAD, "sure", 21);
        refuses(BAD, "sure", LEAST);
        refuses(BAD, "sure", MOST);
        again("q00g9g9g9g9g9g9");
        sureAre(18, 63, 0);
        finds(NOUGHT, "sure", 17);
    }

    private void sureAre(int v, int inEach, int inNone) {
        answers(inEach, "sure", v);
        Check.due("sure(" + v + ") by asked()", call("asked"), inNone);
    }

    // ---- 7 by turns

    private void duel() {
        promise(32, "By turns two (unlike ones) buy a TICKET for themselves to any PLACE (where one is: none), n (0 .. 2) times each, "
            + "the first one begins: how many LOAVES more the first one GETS then than the second one, each wanting more of that for itself, "
            + "told by asked(): 1.");
        line("q01p9p9");
        tells(1, "duel", 0, 1, 0);
        tells(-1, "duel", 1, 0, 0);
        // who has the last turn goes ahead
        tells(-1, "duel", 0, 1, 1);
        tells(-1, "duel", 1, 0, 1);
        tells(-1, "duel", 0, 1, 2);
        stand("01");
        answers(0, "count", 3);
        // none is a turn, too: the soldier need not move
        again("q01s9p9");
        tells(1, "duel", 0, 1, 1);
        tells(1, "duel", 0, 1, 2);
        tells(-1, "duel", 1, 0, 2);
        again("q20g9c9");
        tells(3, "duel", 0, 1, 2);
        tells(-3, "duel", 1, 0, 2);
        again("q20o9o9");
        tells(-1, "duel", 0, 1, 0);
        tells(1, "duel", 1, 0, 0);
        tells(-1, "duel", 0, 1, 1);
        tells(-1, "duel", 1, 0, 1);
        // the first one goes where it is not turned away, and so does the second one
        again("q20p9p9p9p1");
        tells(-1, "duel", 3, 0, 0);
        tells(0, "duel", 3, 0, 1);
        tells(0, "duel", 3, 0, 2);
        tells(1, "duel", 0, 3, 0);
        tells(0, "duel", 0, 3, 1);
        tells(0, "duel", 0, 3, 2);
        // who goes ahead last takes two of three, and leaves one if the other one is next
        again("q03u9p9u9");
        tells(2, "duel", 0, 2, 0);
        tells(-1, "duel", 0, 2, 1);
        tells(-1, "duel", 2, 0, 1);
        // neither twelve tickets nor forty deeds are in the way
        again("q01p9p9");
        ticketsUpTo(12);
        deedsUpTo(40);
        tells(-1, "duel", 0, 1, 1);
        answers(40, "count", 3);
        answers(12, "count", 2);
    }

    private void duelBad() {
        promise(32, "BAD.");
        refuses(BAD, "duel", 0, 1, 0);
        line("q05p1p2p3");
        tells(0, "duel", 0, 2, 0);
        tells(0, "duel", 2, 0, 0);
        refuses(BAD, "duel", 0, 0, 0);
        refuses(BAD, "duel", 2, 2, 2);
        refuses(BAD, "duel", -1, 0, 0);
        refuses(BAD, "duel", 3, 0, 0);
        refuses(BAD, "duel", 0, -1, 0);
        refuses(BAD, "duel", 0, 3, 0);
        refuses(BAD, "duel", 0, 1, -1);
        refuses(BAD, "duel", 0, 1, 3);
        refuses(BAD, "duel", LEAST, MOST, LEAST);
        answers(1, "duel", 0, 1, 2);
        again("q05p1");
        refuses(BAD, "duel", 0, 0, 0);
    }
}
