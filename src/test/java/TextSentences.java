/** Texts and lines: promises 8 to 11, and what a line is. */
final class TextSentences extends Sentences {
    TextSentences(Document document) {
        super(document);
    }

    @Override
    void all() {
        numbersAndSizes();
        text();
        put();
        fault();
        line();
        noPeopleAtFirst();
        blanks();
        noneWithinItems();
        loaves();
        people();
        patience();
        faultOfASign();
        faultOfASeventh();
        faultOfLoaves();
        faultOfTheEnd();
    }

    private void numbersAndSizes() {
        terms("TEXTS 0 .. 3 rows of 0 to 60 bytes");
        for (int t = 0; t <= 3; t++) {
            answers(60, "text", t, 60);
            answers(1032, "put", t, 0, 10 + t);
            answers(1032, "put", t, 59, 20 + t);
        }
        refuses(BAD, "text", -1, 60);
        refuses(BAD, "text", 4, 60);
        // four full texts, none of which reaches into the next one
        for (int t = 0; t <= 3; t++) {
            answers(1010 + t, "put", t, 0, 0);
            answers(1020 + t, "put", t, 59, 0);
            finds(BEYOND, "put", t, 60, 0);
        }
        answers(4, "count", 10);
    }

    private void text() {
        promise(8, "A TEXT is there with n blanks: n.");
        write(0, "ab");
        write(2, "cd");
        for (int n : new int[] {60, 59, 1, 0, 2}) {
            answers(n, "text", 1, n);
            for (int i = 0; i < n; i++) {
                answers(1032, "put", 1, i, 'x');
            }
            finds(BEYOND, "put", 1, n, 'x');
        }
        answers(1000 + 'a', "put", 0, 0, 0);
        answers(1000 + 'b', "put", 0, 1, 0);
        answers(1000 + 'c', "put", 2, 0, 0);
        answers(1000 + 'd', "put", 2, 1, 0);
        promise(8, "BAD: also n above 60");
        refuses(BAD, "text", 0, 61);
        refuses(BAD, "text", 0, MOST);
        refuses(BAD, "text", -1, 0);
        refuses(BAD, "text", 4, 0);
        answers(60, "text", 0, 60);
        answers(0, "text", 3, 0);
        refuses(BAD, "text", 0, 61);
        promise(8, "SIZE: below 0");
        finds(SIZE, "text", 0, -1);
        answers(0, "text", 0, 0);
        write(0, "q05p1");
        finds(SIZE, "text", 0, -1);
        finds(SIZE, "text", 0, LEAST);
        answers(NONE, "fault", 0);
    }

    private void put() {
        promise(9, "Byte i of a TEXT is v, cut to a byte (-128 .. 127): what it was, and 1000 more.");
        call("text", 0, 1);
        int[] laid = {127, 128, 129, 255, 256, 257, -1, -128, -129, -256, -257, MOST, LEAST, 0x12345678, 113};
        int[] cut = {127, -128, -127, -1, 0, 1, -1, -128, 127, 0, -1, -1, 0, 0x78, 113};
        int was = 32;
        for (int k = 0; k < laid.length; k++) {
            answers(was + 1000, "put", 0, 0, laid[k]);
            was = cut[k];
        }
        answers(1113, "put", 0, 0, 113);
        promise(9, "BAD; NOTHING; BEYOND.");
        write(0, "abc");
        write(3, "d");
        call("text", 2, 0);
        answers(1000 + 'a', "put", 0, 0, 1);
        answers(1000 + 'c', "put", 0, 2, 1);
        answers(1000 + 'd', "put", 3, 0, 1);
        refuses(BAD, "put", -1, 0, 1);
        refuses(BAD, "put", 4, 0, 1);
        finds(NOTHING, "put", 1, 0, 1);
        finds(BEYOND, "put", 0, -1, 1);
        finds(BEYOND, "put", 0, 3, 1);
        finds(BEYOND, "put", 0, LEAST, 1);
        finds(BEYOND, "put", 0, MOST, 1);
        finds(BEYOND, "put", 2, 0, 1);
    }

    private void fault() {
        promise(10, "A FAULT of a TEXT; NONE: there is none.");
        for (int t = 0; t <= 3; t++) {
            write(t, "q05 p1");
            answers(NONE, "fault", t);
            answers(1032, "put", t, 3, 'p');
            answers(4, "fault", t);
        }
        answers(0, "count", 0);
        promise(10, "BAD; NOTHING.");
        refuses(BAD, "fault", -1);
        refuses(BAD, "fault", 4);
        finds(NOTHING, "fault", 0);
        finds(NOTHING, "fault", 3);
        call("text", 0, 0);
        answers(0, "fault", 0);
    }

    private void line() {
        promise(11, "A LINE by a TEXT (anew: no TICKETS, DEEDS; kept LINES go): how many PEOPLE.");
        line(SIX);
        call("ticket", 3, 0);
        call("loaves", 9);
        call("keep", 0);
        call("keep", 2);
        call("row", 1, 2);
        call("at", 1, 0);
        write(3, "q08 c4 o5");
        answers(2, "line", 3);
        int[] counts = {2, 8, 0, 0, 0, 1, 2, 0, 2, 1, 2, 0};
        for (int what = 0; what <= 11; what++) {
            answers(counts[what], "count", what);
        }
        stand("01");
        tells(4, "one", 0, 1);
        tells(5, "one", 1, 1);
        refuses(BAD, "sold", 0, 0);
        refuses(BAD, "undo", 1);
        finds(NOTHING, "on", 0);
        finds(NOTHING, "on", 2);
        // the same TEXT again, and one more by it
        call("ticket", 0, 1);
        answers(2, "line", 3);
        stand("01");
        answers(6, "line", 0);
        stand("012345");
        promise(11, "BAD; NOTHING; STATE: a FAULT. (STATE behind NOTHING.)");
        line(SIX);
        call("ticket", 3, 0);
        call("loaves", 9);
        call("keep", 1);
        refuses(BAD, "line", -1);
        refuses(BAD, "line", 4);
        finds(NOTHING, "line", 1);
        finds(NOTHING, "line", 3);
        write(1, "q09 p1s2x");
        refuses(STATE, "line", 1);
        call("text", 1, 0);
        refuses(STATE, "line", 1);
        stand("301245");
        answers(9, "count", 1);
        answers(2, "on", 1);
    }

    private void noPeopleAtFirst() {
        terms("A LINE (without PEOPLE at first) is a TEXT:");
        answers(0, "count", 0);
        answers(0, "count", 1);
        write(0, SIX);
        answers(NONE, "fault", 0);
        answers(0, "count", 0);
        refuses(BAD, "who", 0);
        answers(6, "line", 0);
        answers(6, "count", 0);
        // the line does not change with its text
        call("text", 0, 0);
        answers(6, "count", 0);
        stand("012345");
    }

    private void blanks() {
        terms("blanks (32) ahead, between, behind as many as wanted");
        String[] items = {"q05", "p1", "s2"};
        for (int gap = 0; gap <= 3; gap++) {
            for (int size : new int[] {0, 1, 2, 30, 53}) {
                StringBuilder text = new StringBuilder();
                for (int item = 0; item <= 3; item++) {
                    text.append(" ".repeat(item == gap ? size : 0)).append(item < 3 ? items[item] : "");
                }
                faulty(text.toString(), NONE);
                answers(2, "line", 0);
                answers(5, "count", 1);
                tells(2, "one", 1, 1);
            }
        }
        terms("blanks (32) ahead, between, behind as many as wanted");
        for (char noBlank : new char[] {0, 9, 10, 31, 33, 160}) {
            faulty(noBlank + "q05p1", 0);
            faulty("q05" + noBlank + "p1", 3);
            faulty("q05p1" + noBlank, 5);
        }
    }

    private void noneWithinItems() {
        terms("none within items (an item: a letter and all its figures).");
        faulty("q 05p1", 1);
        faulty("q0 5p1", 2);
        faulty("q05p 1", 4);
        faulty("q05p1s 2", 6);
        faulty("  q 05p1", 3);
    }

    private void loaves() {
        terms("First q (113) and how many LOAVES there are (two figures, 00 .. 20).");
        for (int loaves = 0; loaves <= 20; loaves++) {
            again();
            faulty("q" + loaves / 10 + loaves % 10 + "p1", NONE);
            answers(1, "line", 0);
            answers(loaves, "count", 1);
        }
        for (int loaves = 21; loaves <= 99; loaves++) {
            again();
            faulty("q" + loaves + "p1", 1);
        }
        again();
        faulty("p1q05", 0);
        faulty("05p1", 0);
        faulty("q5p1", 2);
        faulty("q005p1", 3);
        faulty("q05q05p1", 3);
        faulty("q05p1q05", 5);
    }

    private void people() {
        terms("Then PEOPLE (1 to 6; 0, 1, .. as they come: at first one stands at the PLACE of its number, PLACE 0 is the first one):");
        faulty("q05", 3);
        refuses(STATE, "line", 0);
        for (int n = 1; n <= 6; n++) {
            again();
            faulty("q05" + "p1c2s3u4g5o6".substring(0, 2 * n), NONE);
            answers(n, "line", 0);
            stand("012345".substring(0, n));
            for (int i = 0; i < n; i++) {
                tells(i, "one", i, 2);
                tells(i + 1, "one", i, 1);
            }
            refuses(BAD, "one", n, 2);
            refuses(BAD, "who", n);
        }
        again();
        faulty("q05p1c2s3u4g5o6p7", 15);
        refuses(STATE, "line", 0);
    }

    private void patience() {
        terms("a letter, its PATIENCE (1 .. 9, one figure).");
        for (int patience = 1; patience <= 9; patience++) {
            again();
            faulty("q05p" + patience, NONE);
            answers(1, "line", 0);
            tells(patience, "one", 0, 1);
        }
        again();
        faulty("q05p0", 4);
        faulty("q05p/", 4);
        faulty("q05p:", 4);
        faulty("q05ps1", 4);
        faulty("q05p10", 5);
        faulty("q05p01", 4);
    }

    private void faultOfASign() {
        terms("A FAULT is the first place at which it can't go on so (a letter, a figure that is none such");
        // at the sign ? each sign that there is: those that go on, and where the others fail
        eachSign("?05p1", "q", 0, 1);
        eachSign("q?0p1", "012", 1, 1);
        eachSign("q1?p1", "0123456789", 2, 2);
        eachSign("q05?1", "pscugo", 3, 4);
        eachSign("q05p?", "123456789", 4, 4);
        eachSign("q05p1?1", "pscugo", 5, 6);
        again();
        // the first of several
        faulty("x99y0", 0);
        faulty("q99y0", 1);
        faulty("q05y0", 3);
        faulty("q05p0y0", 4);
        faulty("q05p1y0", 5);
        faulty(" q05 P1 S2", 5);
    }

    private void eachSign(String text, String good, int fault, int faultOfABlank) {
        int place = text.indexOf('?');
        for (int sign = 0; sign < 256; sign++) {
            again();
            int due = good.indexOf(sign) >= 0 ? NONE : sign == ' ' ? faultOfABlank : fault;
            faulty(text.substring(0, place) + (char) sign + text.substring(place + 1), due);
        }
    }

    private void faultOfASeventh() {
        terms("a seventh one of PEOPLE: its place");
        faulty("q05p1p2p3p4p5p6", NONE);
        faulty("q05p1p2p3p4p5p6   ", NONE);
        faulty("q05p1p2p3p4p5p6p7", 15);
        faulty("q05p1p2p3p4p5p6 o", 16);
        faulty("q05p1p2p3p4p5p6 p0", 16);
        faulty("q05p1p2p3p4p5p6x", 15);
        faulty("q05p1p2p3p4p5p0p7", 14);
    }

    private void faultOfLoaves() {
        terms("two figures above 20: the place of the first of both");
        faulty("q20p1", NONE);
        faulty("q21p1", 1);
        faulty("q30p1", 1);
        faulty("q99p1", 1);
        faulty("   q21p1", 4);
        faulty("q21", 1);
        faulty("q21x", 1);
        faulty("q210", 1);
        // one figure, however great, is not two
        faulty("q3", 2);
        faulty("q3 1p1", 2);
        faulty("q9x", 2);
    }

    private void faultOfTheEnd() {
        terms("the TEXT's size, if its end comes too early, or there are blanks alone).");
        String text = "  q05  p1  s2  ";
        for (int size = 0; size <= text.length(); size++) {
            boolean isWhole = size >= 9 && size != 12;
            faulty(text.substring(0, size), isWhole ? NONE : size);
        }
        terms("the TEXT's size, if its end comes too early, or there are blanks alone).");
        for (int size : new int[] {0, 1, 2, 59, 60}) {
            answers(size, "text", 1, size);
            answers(size, "fault", 1);
            refuses(STATE, "line", 1);
        }
        faulty("q05" + " ".repeat(57), 60);
        faulty(" ".repeat(59) + "q", 60);
        faulty(" ".repeat(55) + "q05p1", NONE);
    }

    private void faulty(String text, int fault) {
        write(0, text);
        answers(fault, "fault", 0);
    }
}
