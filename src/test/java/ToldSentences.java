/** What is told: promises 36 to 42, the findings, and how long an object is used. */
final class ToldSentences extends Sentences {
    ToldSentences(Document document) {
        super(document);
    }

    @Override
    void all() {
        asked();
        askedStays();
        askedBefore();
        upperAndLower();
        count();
        countOfServing();
        countOfShelves();
        countBad();
        findingNothing();
        findingBeyond();
        findingUnlike();
        findingNought();
        findingSize();
        finding();
        findings();
        digestBegins();
        digest42();
        digestOfWhatIsMissing();
        allCalls();
    }

    private void asked() {
        promise(36, "What the latest lay(), at(), mean(), one(), best(), next(), sets(), sure(), duel() that was not refused");
        line("q05p9p9g9c9");
        row(0, 31, 35);
        row(1);
        tells(31, "lay", 0, 0, 33);
        tells(35, "at", 0, 1);
        tells(34, "mean", 0);
        tells(9, "one", 0, 1);
        answers(0, "best", 2);
        answers(3, "asked");
        answers(0, "next", 1);
        answers(24, "asked");
        tells(3, "sets", 2);
        answers(3, "sure", 2);
        answers(4, "asked");
        tells(-2, "duel", 0, 2, 1);
        // each of them once more, refused
        refuses(BAD, "lay", 6, 0, 1);
        finds(NOTHING, "lay", 2, 0, 1);
        finds(BEYOND, "at", 0, 2);
        refuses(BAD, "mean", 6);
        finds(NOUGHT, "mean", 1);
        refuses(BAD, "one", 4, 0);
        refuses(BAD, "best", 4);
        refuses(BAD, "next", 6);
        refuses(BAD, "sets", 21);
        finds(NOUGHT, "sure", 6);
        refuses(BAD, "duel", 0, 0, 0);
        answers(-2, "asked");
    }

    private void askedStays() {
        promise(36, "(nor NONE) told;");
        line("q05p9p9");
        row(0, 0, 2);
        call("at", 0, 1);
        refuses(NONE, "next", 0);
        answers(2, "asked");
        // all that does not tell by asked()
        again(SIX);
        row(0);
        tells(9, "one", 1, 1);
        otherCalls();
        answers(9, "asked");
    }

    private void askedBefore() {
        promise(36, "; 0 before.");
        answers(0, "asked");
        line(SIX);
        row(0);
        otherCalls();
        answers(0, "asked");
    }

    /** All calls that do not tell by asked(). */
    private void otherCalls() {
        call("row", 1, 3);
        call("copy", 1, 0, 1, 1, 2);
        call("text", 1, 5);
        call("put", 1, 0, 'q');
        call("fault", 1);
        call("mark", 1, SOLDIER);
        call("ticket", 3, 0);
        call("loaves", 9);
        call("keep", 0);
        call("falls", 0);
        call("back", 0);
        call("undo", 2);
        call("on", 0);
        call("who", 0);
        call("sold", 0, 0);
        call("wants", 3, 0);
        call("gets", 3, 0);
        call("wish", 0, 5, 3, 2);
        call("lines", 0);
        call("can", 0, 0);
        call("odds", 0, 3);
        call("mid", 3);
        call("lots", 5, 5);
        call("upper");
        call("lower");
        call("count", 5);
        call("finding");
        call("findings", 1);
        call("tear", 1);
        digest();
        call("line", 0);
    }

    private void upperAndLower() {
        promise(37, "The upper number that was told last; 0 before.");
        answers(0, "upper");
        line(SIX);
        row(0, 7);
        call("at", 0, 0);
        call("best", 3);
        call("sure", 1);
        answers(0, "upper");
        tellsRatio(11, 12, "odds", 1, 1);
        promise(38, "Its lower number; 1 before.");
        answers(1, "lower");
        line("q01p9");
        row(0, 7);
        row(1);
        answers(1, "lower");
        tellsRatio(5, 12, "odds", 0, 7);
        call("at", 0, 0);
        call("best", 0);
        call("sure", 1);
        call("next", 1);
        refuses(BAD, "odds", 0, 13);
        refuses(BAD, "mid", 13);
        refuses(BAD, "sets", 21);
        finds(SIZE, "lines", 0);
        answers(5, "upper");
        answers(12, "lower");
        tellsRatio(1, 1, "lines", 1);
        tellsRatio(1, 4, "mid", 3);
        tellsRatio(1, 1, "sets", 1);
    }

    private void count() {
        promise(39, "0 PEOPLE, 1 LOAVES, 2 TICKETS, 3 DEEDS,");
        for (int what = 0; what <= 3; what++) {
            answers(0, "count", what);
        }
        line(SIX);
        countsAre(6, 6, 0, 0);
        call("ticket", 3, 0);
        countsAre(6, 6, 1, 1);
        call("loaves", 20);
        countsAre(6, 20, 1, 2);
        call("back", 0);
        countsAre(6, 20, 0, 3);
        ticketsUpTo(12);
        countsAre(6, 20, 12, 15);
        deedsUpTo(40);
        answers(40, "count", 3);
        call("undo", 0);
        countsAre(6, 6, 0, 0);
    }

    private void countsAre(int people, int loaves, int tickets, int deeds) {
        answers(people, "count", 0);
        answers(loaves, "count", 1);
        answers(tickets, "count", 2);
        answers(deeds, "count", 3);
    }

    private void countOfServing() {
        promise(39, "4 who is TURNED AWAY (bits), 5 LOAVES that all GET, 6 who GETS what it WANTS, if that is more than 0 (bits), "
            + "7 SOLDIERS (GENERALS, too), 8 CHILDREN (ORPHANS, too),");
        line(SIX);
        servingIs(8, 6, 51, 2, 2);
        call("ticket", 3, 0);
        // the one with the umbrella gets two, the orphan what is left, which is none
        servingIs(0, 6, 26, 2, 2);
        call("loaves", 20);
        servingIs(0, 8, 59, 2, 2);
        call("loaves", 0);
        servingIs(0, 0, 0, 2, 2);
        again("q03c9c9u9o9");
        servingIs(0, 3, 12, 0, 3);
        again("q20p1p1p1p1p1p1");
        servingIs(60, 2, 3, 0, 0);
        again("q20s1g1s1g1s1g1");
        servingIs(60, 4, 3, 6, 0);
        again("q20o9");
        servingIs(0, 1, 1, 0, 1);
    }

    private void servingIs(int away, int gained, int content, int soldiers, int children) {
        answers(away, "count", 4);
        answers(gained, "count", 5);
        answers(content, "count", 6);
        answers(soldiers, "count", 7);
        answers(children, "count", 8);
    }

    private void countOfShelves() {
        promise(39, "9 ROWS, 10 TEXTS that are there, 11 kept LINES.");
        for (int r = 0; r <= 5; r++) {
            call("row", r, r == 3 ? 0 : 40);
            answers(r + 1, "count", 9);
        }
        call("row", 5, 1);
        answers(6, "count", 9);
        for (int r = 0; r <= 5; r++) {
            call("tear", 5 - r);
            answers(5 - r, "count", 9);
        }
        for (int t = 0; t <= 3; t++) {
            call("text", t, t == 2 ? 0 : 60);
            answers(t + 1, "count", 10);
        }
        call("text", 3, 1);
        answers(4, "count", 10);
        line("q05p1");
        for (int k = 0; k <= 2; k++) {
            call("keep", 2 - k);
            answers(k + 1, "count", 11);
        }
        call("keep", 0);
        answers(3, "count", 11);
        call("on", 0);
        answers(3, "count", 11);
        call("line", 0);
        answers(0, "count", 11);
    }

    private void countBad() {
        promise(39, "BAD.");
        answers(0, "count", 0);
        answers(0, "count", 11);
        refuses(BAD, "count", -1);
        refuses(BAD, "count", 12);
        refuses(BAD, "count", LEAST);
        refuses(BAD, "count", MOST);
    }

    // ---- findings

    private void findingNothing() {
        terms("FINDINGS: 1 NOTHING (a ROW, a TEXT, a kept LINE that is missing)");
        line("q05p1");
        finds(1, "lay", 0, 0, 1);
        finds(1, "at", 0, 0);
        finds(1, "tear", 0);
        finds(1, "copy", 0, 0, 0, 0, 0);
        finds(1, "mean", 0);
        finds(1, "put", 1, 0, 1);
        finds(1, "fault", 1);
        finds(1, "line", 1);
        finds(1, "on", 0);
        finds(1, "lines", 0);
        finds(1, "can", 0, 0);
        finds(1, "next", 0);
        answers(12, "findings", 1);
    }

    private void findingBeyond() {
        terms("2 BEYOND (a place of a ROW, a TEXT that there is not)");
        call("row", 0, 1);
        call("text", 0, 1);
        finds(2, "lay", 0, 1, 1);
        finds(2, "at", 0, 1);
        finds(2, "copy", 0, 0, 0, 1, 1);
        finds(2, "put", 0, 1, 1);
        answers(4, "findings", 2);
    }

    private void findingUnlike() {
        terms("3 UNLIKE (one of another KIND; a number that is none)");
        line("q05p1");
        finds(3, "mark", 0, SOLDIER);
        row(0, 0, 10);
        finds(3, "lines", 0);
        finds(3, "can", 0, 0);
        row(0, 1, 0);
        finds(3, "next", 0);
        answers(4, "findings", 3);
    }

    private void findingNought() {
        terms("4 NOUGHT (shared among none; nothing fits)");
        row(0);
        finds(4, "mean", 0);
        line("q05p1");
        finds(4, "sure", 2);
        answers(2, "findings", 4);
    }

    private void findingSize() {
        terms("5 SIZE (fewer than none; too many, not as many as due)");
        finds(5, "row", 0, -1);
        finds(5, "text", 0, -1);
        finds(5, "copy", 0, 0, 0, 0, -1);
        line("q05p1");
        call("row", 0, 18);
        finds(5, "lines", 0);
        call("row", 0, 1);
        finds(5, "can", 0, 0);
        call("row", 0, 17);
        finds(5, "next", 0);
        answers(6, "findings", 5);
    }

    private void finding() {
        promise(40, "The latest FINDING (0 before any).");
        answers(0, "finding");
        // what is refused without one does not change it
        refuses(BAD, "row", 6, 0);
        refuses(STATE, "loaves", 1);
        answers(0, "finding");
        finds(NOTHING, "at", 0, 0);
        answers(1, "row", 0, 1);
        finds(BEYOND, "at", 0, 1);
        refuses(BAD, "row", 6, 0);
        answers(BEYOND, "finding");
        finds(SIZE, "row", 0, -1);
        finds(NOTHING, "tear", 1);
        tells(0, "at", 0, 0);
        answers(NOTHING, "finding");
    }

    private void findings() {
        promise(41, "How often a FINDING (1 .. 5) was answered.");
        for (int f = 1; f <= 5; f++) {
            answers(0, "findings", f);
        }
        for (int k = 0; k < 300; k++) {
            call("tear", 0);
        }
        call("row", 0, 0);
        call("mean", 0);
        call("mean", 0);
        int[] due = {300, 0, 0, 2, 0};
        for (int f = 1; f <= 5; f++) {
            answers(due[f - 1], "findings", f);
        }
        promise(41, "BAD.");
        answers(0, "findings", 1);
        answers(0, "findings", 5);
        refuses(BAD, "findings", 0);
        refuses(BAD, "findings", 6);
        refuses(BAD, "findings", -1);
        refuses(BAD, "findings", LEAST);
        refuses(BAD, "findings", MOST);
    }

    // ---- digest

    private static long digestOf(int... told) {
        long h = 17;
        for (int v : told) {
            h = 31 * h + v;
        }
        return h;
    }

    private void digestBegins() {
        promise(42, "h = 17; then h = 31 h + v for each v (of a call that tells by asked(): what it tells, not the 1 that it answers; asked() stays): "
            + "count() 0 to 11; of each of PEOPLE one() 0 to 6;");
        line("q20p1u9");
        call("text", 0, 0);
        tells(2, "one", 1, 3);
        Check.due("digest()", digest(), digestOf(
            2, 20, 0, 0, 0, 3, 3, 0, 0, 0, 1, 0,
            0, 1, 0, 1, 1, 0, 2, 3, 9, 1, 2, 2, 1, 1,
            -1, -1, -1, -1, -1, -1, -1, -1, -1, 0, -1, -1, -1));
        answers(2, "asked");
        again();
        Check.due("digest()", digest(), digestOf(0, 0, 0, 0, 0, 0, 0, 0, 0, 0, 0, 0, -1, -1, -1, -1, -1, -1, -1, -1, -1, -1, -1, -1, -1));
        answers(0, "asked");
    }

    private void digest42() {
        promise(42, "of each TICKET sold() 0, 1; of each kept LINE how many DEEDS (-1: missing);");
        line("q02s1p9");
        call("keep", 1);
        call("ticket", 1, 0);
        call("ticket", 0, 0);
        call("ticket", 0, 1);
        call("keep", 2);
        call("text", 0, 0);
        // the person first, the soldier last; tickets (1, 0), (0, 0), (0, 1)
        Check.due("digest()", digest(), digestOf(
            2, 2, 3, 3, 0, 2, 3, 1, 0, 0, 1, 2,
            1, 1, 1, 1, 1, 0, 2, 0, 9, 0, 1, 1, 1, 1,
            1, 0, 0, 0, 0, 1,
            -1, 0, 3,
            -1, -1, -1, -1, -1, -1, 0, -1, -1, -1));
        again("q00c1c1c1c1c1c1");
        call("text", 0, 0);
        call("ticket", 5, 4);
        call("ticket", 4, 3);
        // they stand 0 1 2 4 3 5
        Check.due("digest()", digest(), digestOf(
            6, 0, 2, 2, 60, 0, 0, 0, 6, 0, 1, 0,
            2, 1, 0, 0, 0, 0, 2, 2, 1, 1, 0, 0, 1, 5, 2, 1, 2, 0, 0, 2, 18,
            2, 1, 4, 0, 0, 4, 48, 2, 1, 3, 0, 0, 3, 12, 2, 1, 5, 0, 0, 5, 8,
            5, 4, 4, 3,
            -1, -1, -1,
            -1, -1, -1, -1, -1, -1, 0, -1, -1, -1));
    }

    private void digestOfWhatIsMissing() {
        promise(42, "of each ROW its size (-1: missing) and places, of each TEXT likewise.");
        row(0, MOST, LEAST);
        row(2);
        row(5, -1, 0, 1);
        write(1, "a ");
        call("put", 1, 1, 255);
        write(3, "");
        Check.due("digest()", digest(), digestOf(
            0, 0, 0, 0, 0, 0, 0, 0, 0, 3, 2, 0, -1, -1, -1,
            2, MOST, LEAST, -1, 0, -1, -1, 3, -1, 0, 1,
            -1, 2, 97, -1, -1, 0));
        // one that is there without places is not one that is missing
        long digest = digest();
        call("tear", 2);
        Check.that("another digest()", digest() != digest);
        call("row", 2, 0);
        Check.due("digest()", digest(), digest);
    }

    private void allCalls() {
        whatItIs("An object is used for at most 512 calls after it has been made");
        line(SIX);
        call("ticket", 3, 0);
        while (callsMade() < 510) {
            call("duel", 0, 4, 2);
        }
        answers(2, "gets", 3, 0);
        answers(0, "back", 0);
        Check.due("calls made", callsMade(), 512);
    }
}
