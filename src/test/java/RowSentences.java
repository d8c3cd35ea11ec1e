/** A new object, and rows: promises 1 to 7. */
final class RowSentences extends Sentences {
    RowSentences(Document document) {
        super(document);
    }

    @Override
    void all() {
        aNewObject();
        numbersAndSizes();
        row();
        lay();
        at();
        tear();
        copy();
        copyBeyond();
        mean();
    }

    private void aNewObject() {
        promise(1, "No ROWS, TEXTS, PEOPLE.");
        nothingIsThere();
        row(0, 1, 2);
        line(SIX);
        call("ticket", 3, 0);
        call("keep", 0);
        call("at", 0, 1);
        call("mid", 5);
        again();
        nothingIsThere();
    }

    private void nothingIsThere() {
        for (int r = 0; r < 6; r++) {
            finds(NOTHING, "at", r, 0);
        }
        for (int t = 0; t < 4; t++) {
            finds(NOTHING, "put", t, 0, 1);
        }
        for (int what = 0; what <= 11; what++) {
            answers(0, "count", what);
        }
        refuses(BAD, "who", 0);
        refuses(BAD, "one", 0, 0);
        refuses(BAD, "sold", 0, 0);
        answers(0, "undo", 0);
        refuses(BAD, "undo", 1);
        finds(NOTHING, "on", 0);
        answers(0, "asked");
        answers(0, "upper");
        answers(1, "lower");
    }

    private void numbersAndSizes() {
        terms("1 ROWS 0 .. 5 are rows of 0 to 40 ints");
        for (int r = 0; r <= 5; r++) {
            answers(40, "row", r, 40);
            tells(0, "lay", r, 0, 100 + r);
            tells(0, "lay", r, 39, 200 + r);
        }
        refuses(BAD, "row", -1, 40);
        refuses(BAD, "row", 6, 40);
        // six full rows, none of which reaches into the next one
        for (int r = 0; r <= 5; r++) {
            tells(100 + r, "at", r, 0);
            tells(200 + r, "at", r, 39);
            finds(BEYOND, "at", r, 40);
        }
        answers(6, "count", 9);
        terms("or missing (at first)");
        for (int r = 0; r <= 5; r++) {
            finds(NOTHING, "tear", r);
        }
        for (int t = 0; t <= 3; t++) {
            finds(NOTHING, "fault", t);
        }
    }

    private void row() {
        promise(2, "A ROW is there with n ints 0: n.");
        for (int n : new int[] {40, 39, 2, 1, 0}) {
            answers(n, "row", 3, n);
            holds(3, new int[n]);
        }
        promise(2, "A ROW is there with n ints 0: n.");
        // what stood there before does not come back, and the rows beside it stay
        row(1, 5, 6);
        row(2, 7, 8, 9);
        row(3, 4);
        answers(1, "row", 2, 1);
        holds(2, 0);
        answers(3, "row", 2, 3);
        holds(2, 0, 0, 0);
        answers(40, "row", 2, 40);
        holds(1, 5, 6);
        holds(3, 4);
        promise(2, "BAD: also n above 40");
        refuses(BAD, "row", 0, 41);
        refuses(BAD, "row", 0, MOST);
        refuses(BAD, "row", -1, 0);
        refuses(BAD, "row", 6, 0);
        refuses(BAD, "row", LEAST, 0);
        refuses(BAD, "row", MOST, 0);
        answers(40, "row", 0, 40);
        refuses(BAD, "row", 0, 41);
        answers(0, "row", 5, 0);
        promise(2, "SIZE: below 0");
        finds(SIZE, "row", 0, -1);
        answers(0, "row", 0, 0);
        row(0, 3);
        finds(SIZE, "row", 0, -1);
        finds(SIZE, "row", 0, LEAST);
        holds(0, 3);
    }

    private void lay() {
        promise(3, "Place i of a ROW is v: what it was, told by asked(): 1.");
        row(0, 1, 2, 3);
        row(1, 4);
        tells(2, "lay", 0, 1, MOST);
        tells(MOST, "lay", 0, 1, LEAST);
        tells(LEAST, "lay", 0, 1, -1);
        holds(0, 1, -1, 3);
        holds(1, 4);
        promise(3, "BAD; NOTHING; BEYOND.");
        row(0, 1, 2, 3);
        row(5, 9);
        call("row", 4, 0);
        tells(1, "lay", 0, 0, 5);
        tells(3, "lay", 0, 2, 5);
        tells(9, "lay", 5, 0, 8);
        refuses(BAD, "lay", -1, 0, 5);
        refuses(BAD, "lay", 6, 0, 5);
        finds(NOTHING, "lay", 1, 0, 5);
        finds(BEYOND, "lay", 0, -1, 5);
        finds(BEYOND, "lay", 0, 3, 5);
        finds(BEYOND, "lay", 0, LEAST, 5);
        finds(BEYOND, "lay", 0, MOST, 5);
        finds(BEYOND, "lay", 4, 0, 5);
        call("row", 4, 40);
        tells(0, "lay", 4, 39, 5);
        finds(BEYOND, "lay", 4, 40, 5);
    }

    private void at() {
        promise(4, "Place i of a ROW, told by asked(): 1.");
        row(0, MOST, 0, LEAST);
        tells(MOST, "at", 0, 0);
        tells(0, "at", 0, 1);
        tells(LEAST, "at", 0, 2);
        tells(LEAST, "at", 0, 2);
        promise(4, "BAD; NOTHING; BEYOND.");
        row(0, 1, 2, 3);
        row(5, 9);
        call("row", 4, 0);
        tells(1, "at", 0, 0);
        tells(3, "at", 0, 2);
        tells(9, "at", 5, 0);
        refuses(BAD, "at", -1, 0);
        refuses(BAD, "at", 6, 0);
        finds(NOTHING, "at", 1, 0);
        finds(BEYOND, "at", 0, -1);
        finds(BEYOND, "at", 0, 3);
        finds(BEYOND, "at", 0, LEAST);
        finds(BEYOND, "at", 0, MOST);
        finds(BEYOND, "at", 4, 0);
    }

    private void tear() {
        promise(5, "A ROW is missing: 1.");
        row(0, 1);
        row(1, 2, 3);
        row(5);
        answers(1, "tear", 0);
        finds(NOTHING, "at", 0, 0);
        holds(1, 2, 3);
        answers(1, "tear", 5);
        finds(NOTHING, "at", 5, 0);
        answers(1, "count", 9);
        answers(1, "tear", 1);
        answers(0, "count", 9);
        // anew it has none of what it had
        answers(2, "row", 1, 2);
        holds(1, 0, 0);
        promise(5, "BAD; NOTHING.");
        refuses(BAD, "tear", -1);
        refuses(BAD, "tear", 6);
        finds(NOTHING, "tear", 0);
        finds(NOTHING, "tear", 5);
        call("row", 5, 1);
        answers(1, "tear", 5);
        finds(NOTHING, "tear", 5);
    }

    private void copy() {
        promise(6, "n places of a ROW, from one on, come to those of another one (perhaps itself) from one on, as if taken ahead: 1.");
        row(0, 1, 2, 3, 4, 5);
        row(5, 6, 7, 8);
        answers(1, "copy", 0, 3, 5, 1, 2);
        holds(5, 6, 4, 5);
        holds(0, 1, 2, 3, 4, 5);
        answers(1, "copy", 0, 0, 0, 1, 4);
        holds(0, 1, 1, 2, 3, 4);
        answers(1, "copy", 0, 1, 0, 0, 4);
        holds(0, 1, 2, 3, 4, 4);
        answers(1, "copy", 0, 0, 0, 0, 5);
        answers(1, "copy", 5, 0, 0, 4, 1);
        holds(0, 1, 2, 3, 4, 6);
        answers(1, "copy", 0, 2, 5, 1, 0);
        holds(5, 6, 4, 5);
        again();
        for (int r = 0; r < 6; r++) {
            call("row", r, 40);
        }
        for (int r = 0; r < 6; r++) {
            int to = (r + 1) % 6;
            call("lay", r, 0, 7 + r);
            call("lay", r, 39, 8 + r);
            answers(1, "copy", r, 0, to, 0, 40);
            tells(7 + r, "at", to, 0);
            tells(8 + r, "at", to, 39);
        }
        promise(6, "BAD; SIZE: n below 0; NOTHING: either;");
        row(0, 1, 2, 3);
        row(5, 4, 5);
        answers(1, "copy", 0, 0, 5, 0, 1);
        answers(1, "copy", 5, 0, 0, 0, 1);
        refuses(BAD, "copy", -1, 0, 0, 0, 1);
        refuses(BAD, "copy", 6, 0, 0, 0, 1);
        refuses(BAD, "copy", 0, 0, -1, 0, 1);
        refuses(BAD, "copy", 0, 0, 6, 0, 1);
        finds(SIZE, "copy", 0, 0, 5, 0, -1);
        finds(SIZE, "copy", 0, 0, 5, 0, LEAST);
        answers(1, "copy", 0, 0, 5, 0, 0);
        finds(NOTHING, "copy", 1, 0, 0, 0, 1);
        finds(NOTHING, "copy", 0, 0, 1, 0, 1);
        finds(NOTHING, "copy", 1, 0, 1, 0, 0);
    }

    private void copyBeyond() {
        promise(6, "BEYOND: not so many there (with n 0, too, if i or j is below 0 or above the size).");
        row(0, 1, 2, 3);
        row(5, 4, 5);
        call("row", 4, 0);
        answers(1, "copy", 0, 1, 5, 0, 2);
        finds(BEYOND, "copy", 0, 2, 5, 0, 2);
        finds(BEYOND, "copy", 0, 0, 5, 1, 2);
        finds(BEYOND, "copy", 0, 0, 5, 0, 3);
        finds(BEYOND, "copy", 5, 0, 0, 0, 3);
        finds(BEYOND, "copy", 0, -1, 5, 0, 1);
        finds(BEYOND, "copy", 0, 0, 5, -1, 1);
        finds(BEYOND, "copy", 0, MOST, 5, 0, MOST);
        finds(BEYOND, "copy", 0, 0, 5, MOST, 2);
        finds(BEYOND, "copy", 0, 2, 0, 2, MOST);
        finds(BEYOND, "copy", 0, LEAST, 5, LEAST, MOST);
        answers(1, "copy", 0, 3, 5, 2, 0);
        finds(BEYOND, "copy", 0, 4, 5, 0, 0);
        finds(BEYOND, "copy", 0, 0, 5, 3, 0);
        finds(BEYOND, "copy", 0, -1, 5, 0, 0);
        finds(BEYOND, "copy", 0, 0, 5, -1, 0);
        answers(1, "copy", 4, 0, 4, 0, 0);
        answers(1, "copy", 4, 0, 0, 3, 0);
        finds(BEYOND, "copy", 4, 1, 0, 0, 0);
        finds(BEYOND, "copy", 4, 0, 0, 0, 1);
        finds(BEYOND, "copy", 0, 0, 4, 0, 1);
        promise(6, "(In this order.)");
        row(0, 1, 2, 3);
        refuses(BAD, "copy", 6, 9, 0, 0, -1);
        refuses(BAD, "copy", 0, 9, 6, 0, -1);
        refuses(BAD, "copy", -1, 9, 1, 0, 0);
        finds(SIZE, "copy", 1, 0, 0, 0, -1);
        finds(SIZE, "copy", 0, 0, 1, 0, -1);
        finds(SIZE, "copy", 0, 9, 0, -1, -1);
        finds(NOTHING, "copy", 1, -1, 0, 0, 0);
        finds(NOTHING, "copy", 0, 9, 1, 0, 9);
        finds(BEYOND, "copy", 0, 9, 0, 0, 9);
    }

    private void mean() {
        promise(7, "The mean of a ROW's ints, cut, told by asked(): 1.");
        row(0, 5);
        tells(5, "mean", 0);
        row(0, 1, 2);
        tells(1, "mean", 0);
        row(0, -1, -2);
        tells(-1, "mean", 0);
        row(0, 0, 0, -1);
        tells(0, "mean", 0);
        row(0, MOST, MOST, LEAST, LEAST);
        tells(0, "mean", 0);
        row(0, MOST, MOST, MOST, MOST, MOST);
        tells(MOST, "mean", 0);
        row(0, LEAST, LEAST, LEAST);
        tells(LEAST, "mean", 0);
        again();
        call("row", 0, 40);
        call("lay", 0, 0, MOST);
        for (int n = 1; n < 40; n += n) {
            call("copy", 0, 0, 0, n, Math.min(n, 40 - n));
        }
        tells(MOST, "mean", 0);
        call("lay", 0, 39, MOST - 1);
        tells(MOST - 1, "mean", 0);
        promise(7, "BAD; NOTHING; NOUGHT.");
        row(0, 3);
        row(5, 4);
        call("row", 1, 0);
        tells(3, "mean", 0);
        tells(4, "mean", 5);
        refuses(BAD, "mean", -1);
        refuses(BAD, "mean", 6);
        finds(NOTHING, "mean", 2);
        finds(NOUGHT, "mean", 1);
        call("row", 1, 1);
        tells(0, "mean", 1);
    }
}
