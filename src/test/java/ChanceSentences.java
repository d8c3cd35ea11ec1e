/** Chances and means: promises 33 and 34, and what is said of numbers told in two. */
final class ChanceSentences extends Sentences {
    ChanceSentences(Document document) {
        super(document);
    }

    @Override
    void all() {
        shares();
        eachByItself();
        othersStandAsTheyDid();
        odds();
        oddsBad();
        mid();
        midRefused();
        lowestTerms();
        bits();
    }

    private void shares() {
        terms("each of PEOPLE stays at home by p (0 .. 12) of 12");
        line("q01p9");
        int[] upper = {1, 11, 5, 3, 2, 7, 1, 5, 1, 1, 1, 1, 0};
        int[] lower = {1, 12, 6, 4, 3, 12, 2, 12, 3, 4, 6, 12, 1};
        for (int p = 0; p <= 12; p++) {
            tellsRatio(upper[p], lower[p], "odds", 0, p);
            tellsRatio(upper[12 - p], lower[12 - p], "mid", p);
        }
        refuses(BAD, "odds", 0, -1);
        refuses(BAD, "odds", 0, 13);
        refuses(BAD, "mid", -1);
        refuses(BAD, "mid", 13);
    }

    private void eachByItself() {
        terms("each by itself:");
        // the last one gets the loaf where all ahead of it are at home
        line("q01p9p9");
        tellsRatio(35, 144, "odds", 1, 5);
        tellsRatio(11, 144, "odds", 1, 1);
        again("q01p9p9p9p9p9p9");
        tellsRatio(11, 2985984, "odds", 5, 1);
        tellsRatio(161051, 2985984, "odds", 5, 11);
        tellsRatio(1, 2985984, "mid", 1);
        tellsRatio(1771561, 2985984, "mid", 11);
        tellsRatio(1, 64, "mid", 6);
    }

    private void othersStandAsTheyDid() {
        terms("all others stand as they did, one behind another)");
        // an orphan comes to be the last one, one of patience 1 comes to be the second one, a soldier is no more ahead
        line("q01o9c1");
        tellsRatio(2, 9, "odds", 0, 4);
        again("q20p9p9p1");
        tellsRatio(3, 8, "odds", 2, 6);
        again("q01p9s9");
        tellsRatio(1, 4, "odds", 0, 6);
        // in the line as tickets have made it
        again("q01p9p9");
        call("ticket", 1, 0);
        tellsRatio(3, 4, "odds", 1, 3);
        tellsRatio(3, 16, "odds", 0, 3);
    }

    private void odds() {
        promise(33, "Chances that one is there and GETS what it WANTS, if that is more than 0: 1.");
        line("q01p1p9o9");
        tellsRatio(1, 1, "odds", 0, 0);
        tellsRatio(0, 1, "odds", 1, 0);
        tellsRatio(1, 4, "odds", 1, 6);
        tellsRatio(1, 8, "odds", 2, 6);
        tellsRatio(0, 1, "odds", 0, 12);
        call("loaves", 0);
        tellsRatio(0, 1, "odds", 0, 0);
        again("q02g9c9");
        tellsRatio(0, 1, "odds", 0, 0);
        tellsRatio(0, 1, "odds", 1, 0);
        call("loaves", 3);
        tellsRatio(1, 1, "odds", 0, 0);
        // an orphan ahead of the last one wants none
        again("q20o9p9");
        tellsRatio(0, 1, "odds", 0, 0);
        tellsRatio(1, 4, "odds", 0, 6);
    }

    private void oddsBad() {
        promise(33, "BAD.");
        refuses(BAD, "odds", 0, 0);
        line("q05p1p2");
        tellsRatio(1, 1, "odds", 1, 0);
        tellsRatio(0, 1, "odds", 1, 12);
        refuses(BAD, "odds", -1, 0);
        refuses(BAD, "odds", 2, 0);
        refuses(BAD, "odds", 0, -1);
        refuses(BAD, "odds", 0, 13);
        refuses(BAD, "odds", LEAST, MOST);
    }

    private void mid() {
        promise(34, "The mean of how many LOAVES are left in the end: 1.");
        line("q04g9p9");
        tellsRatio(0, 1, "mid", 0);
        tellsRatio(5, 3, "mid", 5);
        tellsRatio(2, 1, "mid", 6);
        tellsRatio(4, 1, "mid", 12);
        call("loaves", 0);
        tellsRatio(0, 1, "mid", 0);
        tellsRatio(0, 1, "mid", 12);
        again("q20g9g9g9g9g9g9");
        tellsRatio(2, 1, "mid", 0);
        tellsRatio(7, 2, "mid", 1);
        tellsRatio(20, 1, "mid", 12);
        // what one that is turned away leaves
        again("q02p9s9p1");
        tellsRatio(0, 1, "mid", 0);
        call("loaves", 3);
        tellsRatio(1, 1, "mid", 0);
    }

    private void midRefused() {
        promise(34, "BAD; STATE: no PEOPLE.");
        refuses(STATE, "mid", 0);
        refuses(STATE, "mid", 12);
        refuses(BAD, "mid", -1);
        refuses(BAD, "mid", 13);
        line("q05p1");
        tellsRatio(4, 1, "mid", 0);
        tellsRatio(5, 1, "mid", 12);
        refuses(BAD, "mid", -1);
        refuses(BAD, "mid", 13);
        refuses(BAD, "mid", LEAST);
        refuses(BAD, "mid", MOST);
    }

    private void lowestTerms() {
        terms("Chances, means, numbers of sets are told by upper(), lower(), in lowest terms, the lower number above 0 (0 by 1).");
        line("q01p9p9");
        tellsRatio(3, 4, "odds", 0, 3);
        tellsRatio(1, 16, "mid", 3);
        tellsRatio(1, 1, "odds", 0, 0);
        tellsRatio(0, 1, "odds", 0, 12);
        tellsRatio(1, 1, "mid", 12);
        tellsRatio(0, 1, "mid", 0);
        tellsRatio(2, 1, "sets", 1);
        tellsRatio(0, 1, "sets", 3);
        row(0);
        tellsRatio(2, 1, "lines", 0);
        row(0, 0, 2);
        tellsRatio(0, 1, "lines", 0);
        // of 12 by 12 by 12 by 12 by 12 by 12, a half
        again("q01p9c9c9c9c9c9");
        tellsRatio(1, 2, "odds", 0, 6);
    }

    private void bits() {
        terms("Sets (of PEOPLE, of KINDS) are told by bits.");
        line("q20p1p1p1p1p1p1");
        answers(60, "count", 4);
        answers(3, "count", 6);
        tells(2, "one", 0, 6);
        tells(16, "one", 5, 6);
        row(0, 5, 1);
        // 5 got its loaf: it was the first or the second one
        answers(63, "can", 0, 0);
        answers(31, "can", 0, 5);
        again("q20c9c9c9c9c9g9");
        answers(32, "sure", 3);
        tells(32, "sets", 3);
    }
}
