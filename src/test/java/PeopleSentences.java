/** Who the people are, what they want, get, and have met: promises 12, 13, 20, 22, and what is said of kinds. */
final class PeopleSentences extends Sentences {
    private static final String LETTERS = "pscugo";

    PeopleSentences(Document document) {
        super(document);
    }

    @Override
    void all() {
        kinds();
        isOfAKind();
        wants();
        served();
        turnedAway();
        turnedAwayCount();
        gets();
        met();
        one();
        oneBad();
        markOfSoldier();
        markOfChild();
        markOfUmbrella();
        markOfGeneral();
        markOfOrphan();
        markRefused();
        who();
        wantsAt();
    }

    private void kinds() {
        terms("KINDS of PEOPLE and letters: 0 PERSON (p, 112), 1 SOLDIER (s, 115; a PERSON), 2 CHILD (c, 99; a PERSON), "
            + "3 UMBRELLA (u, 117; a PERSON), 4 GENERAL (g, 103; a SOLDIER), 5 ORPHAN (o, 111; a CHILD).");
        int[] signs = {112, 115, 99, 117, 103, 111};
        for (int kind = 0; kind <= 5; kind++) {
            again("q05" + (char) signs[kind] + "7");
            tells(kind, "one", 0, 0);
        }
        line("q05o1g2u3c4s5p6");
        for (int i = 0; i < 6; i++) {
            tells(5 - i, "one", i, 0);
        }
    }

    private void isOfAKind() {
        terms("1 SOLDIER (s, 115; a PERSON), 2 CHILD (c, 99; a PERSON), 3 UMBRELLA (u, 117; a PERSON), 4 GENERAL (g, 103; a SOLDIER), "
            + "5 ORPHAN (o, 111; a CHILD).");
        for (int own = PERSON; own <= ORPHAN; own++) {
            again("q20" + LETTERS.charAt(own) + "9");
            for (int kind = SOLDIER; kind <= ORPHAN; kind++) {
                boolean is = own == kind || own == GENERAL && kind == SOLDIER || own == ORPHAN && kind == CHILD;
                if (is) {
                    answers(kind == UMBRELLA ? 20 : 0, "mark", 0, kind);
                } else {
                    finds(UNLIKE, "mark", 0, kind);
                }
            }
            answers(own == SOLDIER || own == GENERAL ? 1 : 0, "count", 7);
            answers(own == CHILD || own == ORPHAN ? 1 : 0, "count", 8);
        }
    }

    private void wants() {
        terms("One WANTS 1 LOAF, a CHILD none, one with an UMBRELLA 2, a GENERAL 3, an ORPHAN none, but 1 at the last PLACE of the line.");
        int[] ahead = {1, 1, 0, 2, 3, 0};
        for (int kind = PERSON; kind <= ORPHAN; kind++) {
            int atTheLast = kind == ORPHAN ? 1 : ahead[kind];
            String own = LETTERS.charAt(kind) + "9";
            // first of two, the one ahead of the last of three, the last of three, alone
            again("q20" + own + "p9");
            tells(ahead[kind], "one", 0, 3);
            again("q20p9" + own + "p9");
            tells(ahead[kind], "one", 1, 3);
            again("q20p9p9" + own);
            tells(atTheLast, "one", 2, 3);
            again("q20" + own);
            tells(atTheLast, "one", 0, 3);
        }
        again("q20o9o9");
        tells(0, "one", 0, 3);
        tells(1, "one", 1, 3);
        call("ticket", 0, 1);
        tells(1, "one", 0, 3);
        tells(0, "one", 1, 3);
    }

    private void served() {
        terms("SERVED are SOLDIERS (GENERALS, too) first, as they stand, then all others, as they stand.");
        line("q20p9g9c9s9o9u9");
        int[] behind = {2, 0, 3, 1, 4, 5};
        for (int i = 0; i < 6; i++) {
            tells(behind[i], "one", i, 5);
        }
        call("ticket", 3, 0);
        tells(0, "one", 3, 5);
        tells(1, "one", 1, 5);
        call("ticket", 5, 1);
        tells(2, "one", 5, 5);
        tells(3, "one", 0, 5);
        tells(5, "one", 4, 5);
        again("q20c9o9p9u9");
        for (int i = 0; i < 4; i++) {
            tells(i, "one", i, 5);
        }
        again("q20s9g9s9g9");
        for (int i = 0; i < 4; i++) {
            tells(i, "one", i, 5);
        }
    }

    private void turnedAway() {
        terms("Who is SERVED behind more people than its PATIENCE is TURNED AWAY: it gets nothing;");
        for (int patience = 1; patience <= 5; patience++) {
            // behind as many as its PATIENCE, and behind one more
            again("q20" + "p9p9p9p9p9".substring(0, 2 * patience) + "p" + patience);
            answers(0, "count", 4);
            tells(1, "one", patience, 4);
            if (patience < 5) {
                again("q20" + "p9p9p9p9p9".substring(0, 2 * patience + 2) + "p" + patience);
                answers(1 << patience + 1, "count", 4);
                tells(0, "one", patience + 1, 4);
            }
        }
        again("q20c9p1s9s9");
        answers(2, "count", 4);
        tells(0, "one", 1, 4);
        again("q20g1g1g1c1");
        answers(12, "count", 4);
        tells(0, "one", 2, 4);
        answers(6, "count", 5);
    }

    private void turnedAwayCount() {
        terms("Who is SERVED behind more people than its PATIENCE is TURNED AWAY");
        // who is turned away ahead of one is yet one of those behind whom it is served, and so is who wants none
        line("q20p9p9p1p3");
        answers(4, "count", 4);
        again("q20p9p9p1p2");
        answers(12, "count", 4);
        again("q20c9c9p1");
        answers(4, "count", 4);
    }

    private void gets() {
        terms("else it GETS as many LOAVES as it WANTS, or as are left, if that is fewer.");
        for (int loaves = 0; loaves <= 7; loaves++) {
            again("q0" + loaves + "g9u9p9");
            tells(Math.min(3, loaves), "one", 0, 4);
            tells(Math.max(0, Math.min(2, loaves - 3)), "one", 1, 4);
            tells(Math.max(0, Math.min(1, loaves - 5)), "one", 2, 4);
            answers(Math.min(6, loaves), "count", 5);
        }
        // what one that is turned away does not get is left for who is behind it
        again("q03p9p9u1u9");
        tells(0, "one", 2, 4);
        tells(1, "one", 3, 4);
        again("q03p9p9c9u9");
        tells(0, "one", 2, 4);
        tells(1, "one", 3, 4);
    }

    private void met() {
        terms("Two have MET, if they stand side by side.");
        line("q05p1");
        tells(0, "one", 0, 6);
        again("q05p1p2");
        tells(2, "one", 0, 6);
        tells(1, "one", 1, 6);
        again(SIX);
        int[] met = {2, 5, 10, 20, 40, 16};
        for (int i = 0; i < 6; i++) {
            tells(met[i], "one", i, 6);
        }
        // who stood there ahead of a TICKET was not met, then
        call("ticket", 0, 5);
        tells(32, "one", 0, 6);
        tells(4, "one", 1, 6);
        tells(17, "one", 5, 6);
    }

    private void one() {
        promise(12, "Of one of PEOPLE: 0 the KIND, 1 its PATIENCE, 2 its PLACE, 3 how many LOAVES it WANTS there, 4 how many it GETS, "
            + "5 behind how many it is SERVED, 6 with whom it has MET (bits), told by asked(): 1.");
        line(SIX);
        call("ticket", 5, 2);
        call("loaves", 5);
        // 0 person, 1 soldier, 5 orphan, 2 child, 3 umbrella, 4 general
        int[][] due = {
            {0, 3, 0, 1, 1, 2, 2}, {1, 9, 1, 1, 1, 0, 33}, {2, 5, 3, 0, 0, 4, 40},
            {3, 2, 4, 2, 0, 5, 20}, {4, 4, 5, 3, 3, 1, 8}, {5, 9, 2, 0, 0, 3, 6}};
        for (int i = 0; i < 6; i++) {
            for (int what = 0; what <= 6; what++) {
                tells(due[i][what], "one", i, what);
            }
        }
    }

    private void oneBad() {
        promise(12, "BAD.");
        line("q05p1s2");
        tells(0, "one", 0, 0);
        tells(1, "one", 1, 6);
        refuses(BAD, "one", -1, 0);
        refuses(BAD, "one", 2, 0);
        refuses(BAD, "one", LEAST, 0);
        refuses(BAD, "one", MOST, 0);
        refuses(BAD, "one", 0, -1);
        refuses(BAD, "one", 0, 7);
        refuses(BAD, "one", 0, LEAST);
        refuses(BAD, "one", 0, MOST);
        again();
        refuses(BAD, "one", 0, 0);
    }

    private void markOfSoldier() {
        promise(13, "What one who IS of a KIND tells: a SOLDIER (GENERAL, too) how many stand ahead of it and are SERVED behind it,");
        line("q20p9c9s9u9g9s9");
        answers(2, "mark", 2, SOLDIER);
        answers(3, "mark", 4, SOLDIER);
        answers(3, "mark", 5, SOLDIER);
        call("ticket", 2, 0);
        answers(0, "mark", 2, SOLDIER);
        call("ticket", 0, 5);
        answers(2, "mark", 4, SOLDIER);
        again("q20p9p9p9p9p9s1");
        answers(5, "mark", 5, SOLDIER);
        // of those that are turned away, too
        again("q20p1s1p1p1s1s1");
        answers(3, "mark", 5, SOLDIER);
    }

    private void markOfChild() {
        promise(13, "a CHILD (ORPHAN, too) how many stand behind it,");
        line("q20c9p9o9c9");
        answers(3, "mark", 0, CHILD);
        answers(1, "mark", 2, CHILD);
        answers(0, "mark", 3, CHILD);
        call("ticket", 2, 0);
        answers(3, "mark", 2, CHILD);
        answers(2, "mark", 0, CHILD);
        again("q20c9");
        answers(0, "mark", 0, CHILD);
    }

    private void markOfUmbrella() {
        promise(13, "one with an UMBRELLA how many LOAVES are left as its turn comes,");
        line("q05u9g9u9u1");
        answers(2, "mark", 0, UMBRELLA);
        answers(0, "mark", 2, UMBRELLA);
        answers(0, "mark", 3, UMBRELLA);
        call("loaves", 20);
        answers(17, "mark", 0, UMBRELLA);
        answers(15, "mark", 2, UMBRELLA);
        // it is turned away: they are left all the same
        answers(13, "mark", 3, UMBRELLA);
        call("loaves", 0);
        answers(0, "mark", 0, UMBRELLA);
    }

    private void markOfGeneral() {
        promise(13, "a GENERAL how many LOAVES it WANTS and does not GET,");
        line("q04g9g9g1");
        answers(0, "mark", 0, GENERAL);
        answers(2, "mark", 1, GENERAL);
        answers(3, "mark", 2, GENERAL);
        call("loaves", 20);
        answers(0, "mark", 1, GENERAL);
        answers(3, "mark", 2, GENERAL);
        call("loaves", 2);
        answers(1, "mark", 0, GENERAL);
    }

    private void markOfOrphan() {
        promise(13, "an ORPHAN by how many PLACES it is ahead of the last PLACE.");
        line("q20o9p9o9o9");
        answers(3, "mark", 0, ORPHAN);
        answers(1, "mark", 2, ORPHAN);
        answers(0, "mark", 3, ORPHAN);
        call("ticket", 0, 3);
        answers(0, "mark", 0, ORPHAN);
        answers(1, "mark", 3, ORPHAN);
    }

    private void markRefused() {
        promise(13, "BAD: also KIND 0; UNLIKE.");
        line("q20s9o9p9");
        answers(0, "mark", 0, SOLDIER);
        answers(1, "mark", 1, ORPHAN);
        refuses(BAD, "mark", -1, SOLDIER);
        refuses(BAD, "mark", 3, SOLDIER);
        refuses(BAD, "mark", 0, PERSON);
        refuses(BAD, "mark", 2, PERSON);
        refuses(BAD, "mark", 0, -1);
        refuses(BAD, "mark", 0, 6);
        refuses(BAD, "mark", 0, LEAST);
        refuses(BAD, "mark", 0, MOST);
        finds(UNLIKE, "mark", 2, SOLDIER);
        finds(UNLIKE, "mark", 2, ORPHAN);
        finds(UNLIKE, "mark", 0, GENERAL);
        finds(UNLIKE, "mark", 1, SOLDIER);
        again();
        refuses(BAD, "mark", 0, SOLDIER);
    }

    private void who() {
        promise(20, "Who stands at a PLACE.");
        line(SIX);
        stand("012345");
        call("ticket", 5, 0);
        stand("501234");
        promise(20, "BAD.");
        refuses(BAD, "who", 0);
        line("q05p1p2p3");
        answers(0, "who", 0);
        answers(2, "who", 2);
        refuses(BAD, "who", -1);
        refuses(BAD, "who", 3);
        refuses(BAD, "who", LEAST);
        refuses(BAD, "who", MOST);
    }

    private void wantsAt() {
        promise(22, "How many LOAVES one would WANT at a PLACE.");
        line(SIX);
        int[] ahead = {1, 1, 0, 2, 3, 0};
        int[] last = {1, 1, 0, 2, 3, 1};
        for (int i = 0; i < 6; i++) {
            answers(ahead[i], "wants", i, 0);
            answers(ahead[i], "wants", i, 4);
            answers(last[i], "wants", i, 5);
        }
        // whatever the loaves, wherever it stands, however many it stands behind
        call("loaves", 0);
        call("ticket", 5, 0);
        answers(1, "wants", 5, 5);
        answers(0, "wants", 5, 0);
        answers(2, "wants", 3, 5);
        again("q05o1");
        answers(1, "wants", 0, 0);
        promise(22, "BAD.");
        refuses(BAD, "wants", 0, 0);
        line("q05p1p2");
        answers(1, "wants", 0, 0);
        answers(1, "wants", 1, 1);
        refuses(BAD, "wants", -1, 0);
        refuses(BAD, "wants", 2, 0);
        refuses(BAD, "wants", 0, -1);
        refuses(BAD, "wants", 0, 2);
        refuses(BAD, "wants", LEAST, MOST);
    }
}
