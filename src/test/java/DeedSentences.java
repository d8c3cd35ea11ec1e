import java.util.function.IntPredicate;

/** Tickets and all that is done: promises 14 to 19, 21, 25, 35, and what is said of tickets, deeds, lots. */
final class DeedSentences extends Sentences {
    private static final long LOT_FACTOR = 48271, LOT_MODULUS = 2147483647;

    DeedSentences(Document document) {
        super(document);
    }

    @Override
    void all() {
        twelveTickets();
        standsAtAPlace();
        allTicketsInOrder();
        givenBack();
        fallsOneByOne();
        deeds();
        fortyDeeds();
        ticket();
        ticketRefused();
        back();
        loaves();
        undo();
        keep();
        on();
        sold();
        falls();
        seeds();
        lotsOfTickets();
        lotsGivenBack();
        lotsOfLoaves();
        lotsOfNothing();
        lots();
        lotsRefused();
    }

    private void twelveTickets() {
        terms("2 TICKETS (12 at most, 0, 1, .. as those that there are were sold: behind one that is out numbers are less)");
        line("q05p1p2p3");
        ticketsUpTo(12);
        refuses(STATE, "ticket", 2, 0);
        answers(12, "count", 2);
        answers(0, "back", 11);
        answers(11, "ticket", 2, 0);
        refuses(STATE, "ticket", 2, 1);
        again(SIX);
        for (int i = 0; i < 4; i++) {
            answers(i, "ticket", 5 - i, i);
        }
        answers(0, "back", 1);
        int[] ones = {5, 3, 2};
        int[] places = {0, 2, 3};
        for (int k = 0; k < 3; k++) {
            answers(ones[k], "sold", k, 0);
            answers(places[k], "sold", k, 1);
        }
        refuses(BAD, "sold", 3, 0);
        answers(3, "ticket", 0, 5);
    }

    private void standsAtAPlace() {
        terms("one of PEOPLE stands at a PLACE: it goes out of the line, then into it again so that it is there; "
            + "all others stand as they did, one behind another.");
        for (int i = 0; i < 6; i++) {
            for (int place = 0; place < 6; place++) {
                String others = "012345".replace("" + i, "");
                again(SIX);
                if (place == i) {
                    refuses(STATE, "ticket", i, place);
                } else {
                    answers(0, "ticket", i, place);
                }
                stand(others.substring(0, place) + i + others.substring(place));
            }
        }
    }

    private void allTicketsInOrder() {
        terms("The line is what comes of the first one by all TICKETS in order.");
        line("q05p1p2p3");
        call("ticket", 0, 2);
        stand("120");
        call("ticket", 1, 2);
        stand("201");
        call("ticket", 1, 1);
        stand("210");
        // by the two that stay, from the first line on
        answers(0, "back", 0);
        answers(2, "count", 2);
        stand("012");
    }

    private void givenBack() {
        terms("GIVEN BACK a TICKET is out of these; of those behind it, one by one, a TICKET whose one is already there "
            + "as its turn comes FALLS: it is out, too.");
        line("q05p1p2p3");
        call("ticket", 0, 1);
        call("ticket", 1, 1);
        stand("012");
        // 1 is at place 1 without the first one
        answers(1, "back", 0);
        answers(0, "count", 2);
        stand("012");
        again("q05p1p2p3");
        call("ticket", 0, 1);
        call("ticket", 2, 0);
        stand("210");
        answers(0, "back", 0);
        answers(1, "count", 2);
        stand("201");
        answers(0, "back", 0);
        stand("012");
        refuses(BAD, "back", 0);
        // the last one: none is behind it
        again("q05p1p2p3");
        call("ticket", 0, 1);
        call("ticket", 1, 1);
        answers(0, "back", 1);
        answers(1, "count", 2);
        stand("102");
        answers(0, "sold", 0, 0);
    }

    private void fallsOneByOne() {
        terms("of those behind it, one by one, a TICKET whose one is already there as its turn comes FALLS");
        line("q05p1p2p3");
        call("ticket", 0, 1);
        call("ticket", 1, 1);
        call("ticket", 0, 1);
        call("ticket", 0, 0);
        stand("012");
        // 1 is there; 0 is not as the turns of its two come, though it is at first, and in the end
        answers(1, "back", 0);
        answers(2, "count", 2);
        stand("012");
        again("q05p1p2p3");
        call("ticket", 2, 0);
        call("ticket", 2, 2);
        call("ticket", 0, 2);
        call("ticket", 0, 0);
        stand("012");
        answers(1, "back", 0);
        answers(2, "count", 2);
        answers(0, "sold", 0, 0);
        answers(2, "sold", 0, 1);
        stand("012");
        // all that are behind it
        again("q05p1p2p3");
        call("ticket", 0, 2);
        call("ticket", 2, 2);
        call("ticket", 1, 1);
        stand("012");
        answers(2, "back", 0);
        answers(0, "count", 2);
        stand("012");
        again("q05p1p2");
        call("ticket", 0, 1);
        call("ticket", 0, 0);
        answers(1, "back", 0);
        stand("01");
        // one stays behind one that falls
        again("q05p1p2p3");
        call("ticket", 1, 0);
        call("ticket", 0, 0);
        call("ticket", 2, 1);
        stand("021");
        answers(1, "back", 0);
        answers(1, "count", 2);
        answers(2, "sold", 0, 0);
        stand("021");
    }

    private void deeds() {
        terms("What is done: a TICKET sold, one given back, LOAVES changed. These are DEEDS 0, 1, ..");
        line(SIX);
        answers(0, "count", 3);
        call("ticket", 3, 0);
        answers(1, "count", 3);
        call("loaves", 7);
        answers(2, "count", 3);
        call("back", 0);
        answers(3, "count", 3);
        // what is asked, kept, and refused is none
        row(1);
        call("best", 3);
        call("gets", 3, 0);
        call("wish", 0, 5, 3, 2);
        call("duel", 0, 4, 2);
        call("keep", 0);
        call("lines", 1);
        refuses(STATE, "loaves", 7);
        answers(3, "count", 3);
        // deed 2 is the ticket given back, 1 the loaves, 0 the ticket
        answers(1, "undo", 2);
        answers(1, "count", 2);
        answers(1, "undo", 1);
        answers(6, "count", 1);
        answers(1, "undo", 0);
        answers(0, "count", 2);
    }

    private void fortyDeeds() {
        terms("(40 at most).");
        line("q05p1p2p3");
        ticketsUpTo(11);
        deedsUpTo(39);
        answers(11, "ticket", 2, 0);
        answers(40, "count", 3);
        refuses(FULL, "back", 0);
        refuses(FULL, "loaves", 9);
        answers(1, "undo", 39);
        answers(0, "back", 10);
        answers(40, "count", 3);
        refuses(FULL, "ticket", 2, 0);
        answers(1, "undo", 39);
        long were = call("count", 1);
        answers(were, "loaves", 9);
        refuses(FULL, "loaves", 10);
        refuses(FULL, "ticket", 2, 0);
        refuses(FULL, "back", 0);
        answers(40, "undo", 0);
        answers(5, "count", 1);
        answers(0, "ticket", 2, 0);
    }

    private void ticket() {
        promise(14, "A TICKET is sold: its number.");
        line(SIX);
        answers(0, "ticket", 0, 5);
        answers(1, "ticket", 5, 0);
        answers(2, "ticket", 3, 1);
        stand("531240");
        answers(0, "back", 1);
        answers(2, "ticket", 5, 0);
    }

    private void ticketRefused() {
        promise(14, "BAD; STATE: one stands there, or there are 12; FULL: 40 DEEDS. (FULL last.)");
        refuses(BAD, "ticket", 0, 0);
        line("q05p1p2p3");
        refuses(BAD, "ticket", -1, 0);
        refuses(BAD, "ticket", 3, 0);
        refuses(BAD, "ticket", 0, -1);
        refuses(BAD, "ticket", 0, 3);
        refuses(BAD, "ticket", LEAST, MOST);
        for (int i = 0; i < 3; i++) {
            refuses(STATE, "ticket", i, i);
        }
        answers(0, "ticket", 2, 0);
        refuses(STATE, "ticket", 2, 0);
        refuses(STATE, "ticket", 0, 1);
        refuses(STATE, "ticket", 1, 2);
        ticketsUpTo(12);
        refuses(STATE, "ticket", 1, 0);
        refuses(STATE, "ticket", call("who", 0), 0);
        refuses(BAD, "ticket", 3, 0);
        // with 40 deeds: FULL last
        deedsUpTo(40);
        refuses(STATE, "ticket", 1, 0);
        refuses(BAD, "ticket", 3, 0);
        again("q05p1p2p3");
        deedsUpTo(40);
        refuses(FULL, "ticket", 0, 1);
        refuses(STATE, "ticket", 0, 0);
        refuses(BAD, "ticket", 3, 0);
        refuses(BAD, "ticket", 0, 3);
        again("q05p1");
        refuses(STATE, "ticket", 0, 0);
    }

    private void back() {
        promise(15, "A TICKET is given back: how many others FALL.");
        line(SIX);
        call("ticket", 0, 1);
        call("ticket", 1, 1);
        call("ticket", 3, 4);
        call("ticket", 3, 3);
        // 1 falls; 3 goes to and fro, and does not
        answers(1, "back", 0);
        answers(2, "count", 2);
        answers(1, "back", 0);
        answers(0, "count", 2);
        answers(6, "count", 3);
        promise(15, "BAD; FULL. (FULL last.)");
        refuses(BAD, "back", 0);
        line("q05p1p2p3");
        refuses(BAD, "back", 0);
        ticketsUpTo(3);
        refuses(BAD, "back", -1);
        refuses(BAD, "back", 3);
        refuses(BAD, "back", LEAST);
        refuses(BAD, "back", MOST);
        deedsUpTo(40);
        refuses(FULL, "back", 0);
        refuses(FULL, "back", 2);
        refuses(BAD, "back", 3);
        refuses(BAD, "back", -1);
        call("undo", 39);
        answers(0, "back", 2);
        refuses(BAD, "back", 2);
    }

    private void loaves() {
        promise(16, "How many LOAVES (0 .. 20) there are: how many there were.");
        line("q05g9u9");
        answers(5, "loaves", 0);
        tells(0, "one", 0, 4);
        answers(0, "loaves", 20);
        tells(3, "one", 0, 4);
        answers(20, "loaves", 4);
        tells(1, "one", 1, 4);
        answers(4, "count", 1);
        answers(3, "count", 3);
        promise(16, "BAD; STATE: no PEOPLE, or it is so; FULL. (FULL last.)");
        refuses(STATE, "loaves", 0);
        refuses(STATE, "loaves", 20);
        refuses(BAD, "loaves", -1);
        refuses(BAD, "loaves", 21);
        line("q05p1");
        refuses(STATE, "loaves", 5);
        refuses(BAD, "loaves", -1);
        refuses(BAD, "loaves", 21);
        refuses(BAD, "loaves", LEAST);
        refuses(BAD, "loaves", MOST);
        answers(5, "loaves", 0);
        refuses(STATE, "loaves", 0);
        deedsUpTo(40);
        refuses(FULL, "loaves", 7);
        refuses(STATE, "loaves", call("count", 1));
        refuses(BAD, "loaves", 21);
        refuses(BAD, "loaves", -1);
    }

    private void undo() {
        promise(17, "DEEDS from number n on (0 to how many there are: none then) are undone: how many.");
        line("q05p1p2p3");
        call("ticket", 0, 1);
        call("ticket", 1, 1);
        call("loaves", 7);
        call("back", 0);
        call("ticket", 2, 0);
        answers(0, "undo", 5);
        stand("201");
        answers(1, "undo", 4);
        stand("012");
        answers(0, "count", 2);
        answers(1, "undo", 3);
        // the ticket that had fallen is there again
        answers(2, "count", 2);
        answers(1, "sold", 1, 0);
        answers(7, "count", 1);
        answers(2, "undo", 1);
        stand("102");
        answers(5, "count", 1);
        answers(1, "undo", 0);
        answers(0, "undo", 0);
        stand("012");
        again();
        answers(0, "undo", 0);
        promise(17, "BAD.");
        refuses(BAD, "undo", -1);
        refuses(BAD, "undo", 1);
        line("q05p1p2p3");
        refuses(BAD, "undo", 1);
        ticketsUpTo(2);
        refuses(BAD, "undo", -1);
        refuses(BAD, "undo", 3);
        refuses(BAD, "undo", LEAST);
        refuses(BAD, "undo", MOST);
        deedsUpTo(40);
        refuses(BAD, "undo", 41);
        answers(0, "undo", 40);
    }

    private void keep() {
        promise(18, "The LINE (as it is, DEEDS) is kept in a place (0 .. 2): how many DEEDS.");
        line("q05p1p2p3");
        answers(0, "keep", 0);
        call("ticket", 2, 0);
        answers(1, "keep", 1);
        deedsUpTo(40);
        answers(40, "keep", 2);
        answers(3, "count", 11);
        // each place has its own, and what is done later does not reach it
        answers(0, "on", 0);
        stand("012");
        answers(40, "on", 2);
        stand("201");
        answers(1, "count", 1);
        answers(1, "on", 1);
        stand("201");
        answers(5, "count", 1);
        // anew in the same place
        call("loaves", 9);
        answers(2, "keep", 1);
        answers(3, "count", 11);
        answers(0, "on", 0);
        answers(2, "on", 1);
        answers(9, "count", 1);
        promise(18, "BAD; STATE: no PEOPLE.");
        refuses(STATE, "keep", 0);
        refuses(STATE, "keep", 2);
        refuses(BAD, "keep", -1);
        refuses(BAD, "keep", 3);
        line("q05p1");
        answers(0, "keep", 0);
        answers(0, "keep", 2);
        refuses(BAD, "keep", -1);
        refuses(BAD, "keep", 3);
        refuses(BAD, "keep", LEAST);
        refuses(BAD, "keep", MOST);
        answers(2, "count", 11);
    }

    private void on() {
        promise(19, "The LINE is as it was kept: how many DEEDS.");
        line("q05p1p2p3");
        call("ticket", 0, 1);
        call("ticket", 1, 1);
        call("back", 0);
        call("ticket", 2, 1);
        call("loaves", 8);
        call("keep", 1);
        call("undo", 1);
        call("loaves", 3);
        answers(5, "on", 1);
        stand("021");
        answers(8, "count", 1);
        answers(1, "count", 2);
        answers(2, "sold", 0, 0);
        answers(1, "sold", 0, 1);
        // with its deeds: they can be undone, and more can be done
        answers(3, "undo", 2);
        answers(2, "count", 2);
        stand("012");
        answers(5, "on", 1);
        answers(5, "on", 1);
        answers(1, "ticket", 0, 2);
        answers(6, "count", 3);
        answers(1, "count", 11);
        promise(19, "BAD; NOTHING.");
        refuses(BAD, "on", -1);
        refuses(BAD, "on", 3);
        finds(NOTHING, "on", 0);
        line("q05p1p2");
        call("ticket", 0, 1);
        finds(NOTHING, "on", 0);
        finds(NOTHING, "on", 2);
        call("keep", 1);
        finds(NOTHING, "on", 0);
        finds(NOTHING, "on", 2);
        refuses(BAD, "on", -1);
        refuses(BAD, "on", 3);
        refuses(BAD, "on", LEAST);
        refuses(BAD, "on", MOST);
        answers(1, "on", 1);
    }

    private void sold() {
        promise(21, "A TICKET's one (what = 0), its PLACE (1).");
        line(SIX);
        call("ticket", 3, 0);
        call("ticket", 0, 5);
        answers(3, "sold", 0, 0);
        answers(0, "sold", 0, 1);
        answers(0, "sold", 1, 0);
        answers(5, "sold", 1, 1);
        promise(21, "BAD.");
        refuses(BAD, "sold", 0, 0);
        line("q05p1p2");
        refuses(BAD, "sold", 0, 0);
        ticketsUpTo(12);
        answers(0, "sold", 0, 0);
        answers(1, "sold", 11, 1);
        refuses(BAD, "sold", -1, 0);
        refuses(BAD, "sold", 12, 0);
        refuses(BAD, "sold", 0, -1);
        refuses(BAD, "sold", 0, 2);
        refuses(BAD, "sold", LEAST, MOST);
        call("back", 11);
        refuses(BAD, "sold", 11, 0);
    }

    private void falls() {
        promise(25, "How many TICKETS would FALL, were one given back.");
        line("q05p1p2p3");
        call("ticket", 0, 1);
        call("ticket", 1, 1);
        call("ticket", 2, 0);
        answers(1, "falls", 0);
        answers(0, "falls", 1);
        answers(0, "falls", 2);
        // nothing is given back
        answers(3, "count", 2);
        answers(3, "count", 3);
        stand("201");
        deedsUpTo(40);
        answers(1, "falls", 0);
        promise(25, "BAD.");
        refuses(BAD, "falls", 0);
        line("q05p1p2");
        refuses(BAD, "falls", 0);
        ticketsUpTo(2);
        refuses(BAD, "falls", -1);
        refuses(BAD, "falls", 2);
        refuses(BAD, "falls", LEAST);
        refuses(BAD, "falls", MOST);
        answers(0, "falls", 1);
    }

    // ---- lots

    private void seeds() {
        terms("3 LOTS: a number comes from the one ahead by 48271 times it modulo 2147483647, the first from a seed (1 .. 2147483646).");
        line("q05p9p9p9");
        refuses(BAD, "lots", 1, 0);
        refuses(BAD, "lots", 1, MOST);
        refuses(BAD, "lots", 1, -1);
        refuses(BAD, "lots", 1, LEAST);
        for (int seed : new int[] {1, 2, 44488, 48271, 1 << 30, 1900000000, MOST - 2, MOST - 1}) {
            again("q05p9p9p9");
            lotsAsByHand(20, seed);
            lotsAsByHand(20, MOST - seed);
        }
    }

    /** Lots, and the same deeds one by one by the calls that do them: all is to be as it is then, but for deeds that do nothing. */
    private void lotsAsByHand(int n, int seed) {
        String lots = Run.told("lots", n, seed);
        Run hand = twin();
        long number = seed;
        for (int lot = 0; lot < n; lot++) {
            number = number * LOT_FACTOR % LOT_MODULUS;
            byHand(hand, (int) number);
        }
        int deeds = call("count", 3);
        answers(hand.call("count", 5), "lots", n, seed);
        answers(deeds + n, "count", 3);
        for (int what : new int[] {1, 2, 4, 6}) {
            answers(hand.call("count", what), "count", what);
        }
        for (int place = 0; place < call("count", 0); place++) {
            Check.due(lots + ", place " + place, call("who", place), hand.call("who", place));
        }
        for (int k = 0; k < call("count", 2); k++) {
            Check.due(lots + ", ticket " + k, call("sold", k, 0), hand.call("sold", k, 0));
            Check.due(lots + ", its place", call("sold", k, 1), hand.call("sold", k, 1));
        }
    }

    private static void byHand(Run hand, int it) {
        int people = (int) hand.call("count", 0);
        int tickets = (int) hand.call("count", 2);
        int what = it / 8 % 8;
        if (what == 7) {
            hand.call("loaves", it / 64 % 21);
        } else if (what < 6) {
            hand.call("ticket", it % people, it / 64 % people);
        } else if (tickets > 0) {
            hand.call("back", it / 64 % tickets);
        }
    }

    /** A seed whose first number is such. */
    private static int seedOf(IntPredicate such) {
        for (int seed = 1; seed < 100_000; seed++) {
            if (such.test(first(seed))) {
                return seed;
            }
        }
        throw new IllegalArgumentException("no seed");
    }

    private static int first(int seed) {
        return (int) (seed * LOT_FACTOR % LOT_MODULUS);
    }

    private void lotsOfTickets() {
        promise(35, "by what it by 8, cut, modulo 8 is: 0 to 5 a TICKET for one of PEOPLE it modulo how many there are, "
            + "to PLACE it by 64, cut, modulo as many (if it can be sold)");
        for (int what = 0; what <= 5; what++) {
            int kind = what;
            again("q05p9p9p9p9p9");
            int seed = seedOf(it -> it / 8 % 8 == kind && it % 5 != it / 64 % 5);
            answers(5, "lots", 1, seed);
            answers(1, "count", 2);
            answers(first(seed) % 5, "sold", 0, 0);
            answers(first(seed) / 64 % 5, "sold", 0, 1);
            answers(first(seed) % 5, "who", first(seed) / 64 % 5);
            // who stands there buys none
            again("q05p9p9p9p9p9");
            answers(5, "lots", 1, seedOf(it -> it / 8 % 8 == kind && it % 5 == it / 64 % 5));
            answers(0, "count", 2);
            answers(1, "count", 3);
            stand("01234");
            // nor does anyone where there are twelve
            again("q05p9p9p9p9p9");
            ticketsUpTo(12);
            answers(5, "lots", 1, seed);
            answers(12, "count", 2);
            answers(13, "count", 3);
            stand("01234");
        }
        again("q05p9p9p9");
        ticketsUpTo(11);
        lotsAsByHand(20, 12);
    }

    private void lotsGivenBack() {
        promise(35, "6 TICKET it by 64, cut, modulo how many there are is given back (if there are any)");
        for (int which = 0; which < 4; which++) {
            int k = which;
            int seed = seedOf(it -> it / 8 % 8 == 6 && it / 64 % 4 == k);
            again("q05p9p9p9p9p9");
            call("ticket", 0, 4);
            call("ticket", 1, 3);
            call("ticket", 2, 2);
            call("ticket", 3, 4);
            lotsAsByHand(1, seed);
            Check.that("a ticket is out", call("count", 2) < 4);
            again("q05p9p9p9p9p9");
            answers(5, "lots", 1, seed);
            answers(0, "count", 2);
            answers(1, "count", 3);
            stand("01234");
        }
        // where others fall
        again("q05p9p9p9");
        call("ticket", 0, 1);
        call("ticket", 1, 1);
        answers(3, "lots", 1, seedOf(it -> it / 8 % 8 == 6 && it / 64 % 2 == 0));
        answers(0, "count", 2);
        answers(3, "count", 3);
        answers(1, "undo", 2);
        answers(2, "count", 2);
    }

    private void lotsOfLoaves() {
        promise(35, "7 there are it by 64, cut, modulo 21 LOAVES");
        for (int loaves = 0; loaves <= 20; loaves++) {
            int due = loaves;
            again("q05g9g9u9");
            answers(Math.min(loaves, 8), "lots", 1, seedOf(it -> it / 8 % 8 == 7 && it / 64 % 21 == due));
            answers(loaves, "count", 1);
            answers(1, "count", 3);
            answers(1, "undo", 0);
            answers(5, "count", 1);
        }
    }

    private void lotsOfNothing() {
        promise(35, "for each a number (each a DEED, also where nothing becomes other by it)");
        line("q05p9");
        call("lots", 20, 1);
        answers(20, "count", 3);
        answers(0, "count", 2);
        call("lots", 20, 2);
        answers(40, "count", 3);
        answers(40, "keep", 0);
        answers(39, "undo", 1);
        answers(1, "undo", 0);
        answers(40, "on", 0);
        // the same loaves as there are
        again("q05p9");
        answers(1, "lots", 1, seedOf(it -> it / 8 % 8 == 7 && it / 64 % 21 == 5));
        answers(1, "count", 3);
        answers(5, "count", 1);
    }

    private void lots() {
        promise(35, "n (1 .. 20) DEEDS truly by LOTS of a seed");
        for (int n : new int[] {1, 2, 19, 20}) {
            again(SIX);
            lotsAsByHand(n, 7);
            answers(n, "undo", 0);
            stand("012345");
            answers(6, "count", 1);
        }
        // one by one, each from the number ahead
        again(SIX);
        call("lots", 3, 7);
        long digest = digest();
        again(SIX);
        call("lots", 1, 7);
        call("lots", 1, first(7));
        call("lots", 1, first(first(7)));
        Check.due("digest()", digest(), digest);
        promise(35, ": how many LOAVES all get then.");
        for (int seed = 1; seed <= 6; seed++) {
            again("q09g9u2c1s1o4p3");
            int all = call("lots", 5, seed);
            answers(all, "count", 5);
        }
    }

    private void lotsRefused() {
        promise(35, "BAD; STATE: no PEOPLE; FULL: with n more there would be more than 40 DEEDS. (FULL last.)");
        refuses(STATE, "lots", 1, 1);
        refuses(STATE, "lots", 20, MOST - 1);
        refuses(BAD, "lots", 0, 1);
        refuses(BAD, "lots", 21, 1);
        refuses(BAD, "lots", 1, 0);
        line("q05p1p2");
        refuses(BAD, "lots", 0, 1);
        refuses(BAD, "lots", 21, 1);
        refuses(BAD, "lots", -1, 1);
        refuses(BAD, "lots", LEAST, 1);
        refuses(BAD, "lots", MOST, 1);
        refuses(BAD, "lots", 1, 0);
        refuses(BAD, "lots", 1, MOST);
        deedsUpTo(21);
        refuses(FULL, "lots", 20, 1);
        Check.that("up to the 40th", call("lots", 19, 1) >= 0);
        answers(40, "count", 3);
        refuses(FULL, "lots", 1, 1);
        refuses(BAD, "lots", 0, 1);
        refuses(BAD, "lots", 21, 1);
        refuses(BAD, "lots", 1, MOST);
        call("undo", 39);
        refuses(FULL, "lots", 2, 1);
        Check.that("the 40th", call("lots", 1, 1) >= 0);
    }
}
