/** Promises 18 to 21: each sentence that names a boundary, and the order of reasons. */
final class EndsEdges {
    private EndsEdges() {
    }

    static void run() {
        hammerAnswers();
        hammerReasons();
        hammerOfAJoinedLot();
        hammerWithoutSeller();
        joinSame();
        joinKinds();
        joinStates();
        joinJoined();
        settleNoWhole();
        settleOpen();
        settleMore();
        settleOfThoseThatDo();
        settleTrace();
        settleWithoutSeller();
        settleNeedsNoSellerOfWhatPasses();
        reofferStates();
        reofferStart();
        reofferFalling();
        reofferIsNewAgain();
        reofferParts();
    }

    private static void hammerAnswers() {
        Check.sentence("Promise 18", "Answers what it brought, 0 if it passed.");
        AuctionRoom x = Check.room();
        int least = Check.calledLot(x, 1, 1, 0);
        x.bid(least, 0, 1);
        Check.due("the least", x.hammer(least), 1);
        Check.due("it is sold", x.state(least), 2);
        int most = Check.calledLot(x, 3, Check.SUM, 0);
        x.bid(most, 0, Check.SUM);
        Check.due("the most", x.hammer(most), 12 * Check.SUM);
        Check.due("it is sold", x.state(most), 2);
        int none = Check.calledLot(x, 1, 1, 0);
        Check.due("nothing", x.hammer(none), 0);
        Check.due("why", x.why(), 0);
        Check.due("it passed", x.state(none), 3);
    }

    private static void hammerReasons() {
        Check.sentence("Promise 18", "Reasons: l is looked up; it is open; 8: it is joined; SOLD is asked; 5.");
        AuctionRoom x = Check.room();
        Check.due("beyond", x.hammer(400), -3);
        Check.due("none", x.hammer(399), -2);
        for (int kind = 1; kind <= 5; kind++) {
            int l = Check.newLot(x, kind, 10, 0);
            Check.due("new", x.hammer(l), -6);
            Check.trace("SOLD is not asked", x);
            x.call(l);
            Check.due("called", x.hammer(l), 0);
            Check.due("passed", x.hammer(l), -9);
            Check.trace("SOLD is not asked", x);
        }
        Check.due("sold", x.hammer(Check.soldLot(x, 1, 10)), -9);
    }

    private static void hammerOfAJoinedLot() {
        Check.sentence("Promise 18", "8: it is joined");
        AuctionRoom x = Check.room();
        for (int l = 0; l < 3; l++) x.lot(1, 10, 0);
        x.join(1, 2, 0);
        for (int l = 0; l < 3; l++) Check.due("6 ahead of 8", x.hammer(l), -6);
        for (int l = 0; l < 3; l++) {
            x.call(l);
            x.bid(l, 0, 10);
        }
        for (int l = 0; l < 3; l++) {
            Check.due("8 ahead of 5", x.hammer(l), -8);
            Check.trace("SOLD is not asked", x);
        }
        AuctionRoom y = Check.room();
        for (int l = 0; l < 3; l++) Check.newLot(y, 1, 10, 0);
        y.batch();
        y.join(0, 1, 2);
        y.undo();
        for (int l = 0; l < 3; l++) {
            y.call(l);
            Check.due("a join that was taken back", y.hammer(l), 0);
        }
    }

    private static void hammerWithoutSeller() {
        Check.sentence("Promise 18", "SOLD is asked; 5.");
        AuctionRoom x = Check.room();
        x.lot(1, 10, 20);
        x.call(0);
        x.bid(0, 0, 19);
        x.batch();
        Check.due("it passes: no seller is needed", x.hammer(0), 0);
        Check.trace("it passes", x, 11);
        x.undo();
        x.bid(0, 1, 20);
        Check.due("it would be sold", x.hammer(0), -5);
        Check.trace("behind PIECES", x, 11, 4);
        Check.due("it is called yet", x.state(0), 1);
        Check.due("no money moved", x.balance(1), 0);
    }

    /** Lots of a kind each, with a seller, new. */
    private static AuctionRoom lots(int... kinds) {
        AuctionRoom x = Check.room();
        for (int kind : kinds) Check.newLot(x, kind, 10, 0);
        return x;
    }

    private static void joinSame() {
        Check.sentence("Promise 19", "Reasons: w is looked up, then a, then b; 13: two of them are the same");
        AuctionRoom x = lots(1, 1, 1, 4);
        Check.due("w's 3 ahead of a's 2", x.join(400, 9, 9), -3);
        Check.due("w's 2 ahead of a's 3", x.join(9, 400, 400), -2);
        Check.due("a's 3 ahead of b's 2", x.join(0, 400, 9), -3);
        Check.due("a's 2 ahead of b's 3", x.join(0, 9, 400), -2);
        Check.due("b's 3 ahead of 13", x.join(0, 0, 400), -3);
        Check.due("b's 2 ahead of 13", x.join(0, 0, 9), -2);
        Check.due("w and a", x.join(0, 0, 1), -13);
        Check.due("w and b", x.join(0, 1, 0), -13);
        Check.due("a and b", x.join(0, 1, 1), -13);
        Check.due("all", x.join(0, 0, 0), -13);
        Check.due("13 ahead of 4", x.join(3, 3, 0), -13);
        x.call(2);
        Check.due("13 ahead of 9", x.join(2, 2, 0), -13);
        Check.due("three that differ", x.join(0, 1, (int) x.lot(2, 1, 0)), 1);
        Check.due("13 ahead of 8", x.join(0, 0, 1), -13);
    }

    private static void joinKinds() {
        Check.sentence("Promise 19", "4: one is SEALED or FALLING");
        for (int kind = 1; kind <= 5; kind++) {
            long due = kind <= 3 ? 1 : -4;
            Check.due("whole of kind " + kind, lots(kind, 1, 2).join(0, 1, 2), due);
            Check.due("first part of kind " + kind, lots(3, kind, 2).join(0, 1, 2), due);
            Check.due("second part of kind " + kind, lots(3, 1, kind).join(0, 1, 2), due);
        }
        AuctionRoom x = lots(1, 1, 4);
        x.call(0);
        Check.due("4 ahead of 9", x.join(0, 1, 2), -4);
    }

    private static void joinStates() {
        Check.sentence("Promise 19", "9: one is not new");
        for (int other = 0; other < 3; other++) {
            AuctionRoom x = lots(1, 1, 1);
            x.call(other);
            Check.due("called", x.join(0, 1, 2), -9);
            x.hammer(other);
            Check.due("passed", x.join(0, 1, 2), -9);
            x.reoffer(other, 10);
            Check.due("new again", x.join(0, 1, 2), 1);
            AuctionRoom y = lots(1, 1, 1);
            y.call(other);
            y.bid(other, 0, 10);
            y.hammer(other);
            Check.due("sold", y.join(0, 1, 2), -9);
        }
    }

    private static void joinJoined() {
        Check.sentence("Promise 19", "8: one is joined already.");
        for (int joined = 0; joined < 3; joined++) {
            AuctionRoom x = lots(1, 1, 1, 1, 1);
            Check.due("join", x.join(0, 1, 2), 1);
            Check.due("as a whole", x.join(joined, 3, 4), -8);
            Check.due("as the first part", x.join(3, joined, 4), -8);
            Check.due("as the second part", x.join(3, 4, joined), -8);
            x.call(3);
            Check.due("9 ahead of 8", x.join(joined, 3, 4), -9);
        }
        AuctionRoom y = lots(1, 1, 1);
        y.batch();
        y.join(0, 1, 2);
        y.undo();
        Check.due("a join that was taken back", y.join(2, 1, 0), 1);
        Check.due("the same again", y.join(2, 1, 0), -8);
    }

    private static void settleNoWhole() {
        Check.sentence("Promise 20", "Reasons: w is looked up; 14: it is no whole; it is open");
        AuctionRoom x = lots(1, 1, 1, 1);
        Check.due("beyond", x.settle(400), -3);
        Check.due("none", x.settle(4), -2);
        Check.due("not joined: 14 ahead of 6", x.settle(0), -14);
        x.join(1, 0, 2);
        Check.due("the first part", x.settle(0), -14);
        Check.due("the second part", x.settle(2), -14);
        Check.due("another lot", x.settle(3), -14);
        Check.due("the whole: 6", x.settle(1), -6);
        for (int l = 0; l < 3; l++) x.call(l);
        Check.due("the first part", x.settle(0), -14);
        Check.due("the whole", x.settle(1), 0);
        Check.due("a part that ended: 14 ahead of 9", x.settle(0), -14);
        Check.due("the whole that ended", x.settle(1), -9);
    }

    private static void settleOpen() {
        Check.sentence("Promise 20", "it is open, then its parts are, in order; 5.");
        for (int missing = 0; missing < 3; missing++) {
            AuctionRoom x = lots(1, 1, 1);
            x.join(0, 2, 1);
            for (int l = 0; l < 3; l++) if (l != missing) x.call(l);
            for (int l = 0; l < 3; l++) x.bid(l, 0, 10);
            Check.due("one is not called", x.settle(0), -6);
            Check.trace("SOLD is not asked", x);
            x.call(missing);
            Check.due("all are called", x.settle(0) >= 0);
            for (int l = 0; l < 3; l++) Check.due("it ended", x.state(l) >= 2);
            Check.due("again", x.settle(0), -9);
        }
    }

    /** A SINGLE from 1 on with RESERVE 20 as the whole of a SINGLE and a PAIR, likewise; and bids. */
    private static AuctionRoom joined(long whole, long first, long second) {
        AuctionRoom x = Check.room();
        for (int kind : new int[] {1, 1, 2}) Check.newLot(x, kind, 1, 20);
        x.join(0, 1, 2);
        for (int l = 0; l < 3; l++) x.call(l);
        if (whole > 0) x.bid(0, 0, whole);
        if (first > 0) x.bid(1, 0, first);
        if (second > 0) x.bid(2, 1, second);
        return x;
    }

    private static void dueSettled(AuctionRoom x, String what, long brought, int whole, int first, int second) {
        Check.due(what + ": settle", x.settle(0), brought);
        Check.due(what + ": whole", x.state(0), whole);
        Check.due(what + ": first", x.state(1), first);
        Check.due(what + ": second", x.state(2), second);
        Check.due(what + ": sellers", x.balance(5), brought);
        Check.due(what + ": buyers", x.balance(0) + x.balance(1), -brought);
    }

    private static void settleMore() {
        Check.sentence("Promise 20", "Does the whole, and brings it more than those of its parts that do together,"
            + " it is sold and they pass; else those of them that do are sold, in order, and the rest passes.");
        dueSettled(joined(79, 30, 25), "one less", 80, 3, 2, 2);
        dueSettled(joined(80, 30, 25), "as much", 80, 3, 2, 2);
        dueSettled(joined(81, 30, 25), "one more", 81, 2, 3, 3);
        dueSettled(joined(Check.SUM, Check.SUM, Check.SUM), "the most", 3 * Check.SUM, 3, 2, 2);
    }

    private static void settleOfThoseThatDo() {
        Check.sentence("Promise 20", "Does the whole, and brings it more than those of its parts that do together");
        dueSettled(joined(0, 0, 0), "nothing stands", 0, 3, 3, 3);
        dueSettled(joined(19, 0, 0), "the whole below RESERVE", 0, 3, 3, 3);
        dueSettled(joined(20, 0, 0), "the whole at RESERVE", 20, 2, 3, 3);
        dueSettled(joined(20, 19, 19), "parts below RESERVE do not", 20, 2, 3, 3);
        dueSettled(joined(20, 20, 19), "the first does, as much", 20, 3, 2, 3);
        dueSettled(joined(21, 20, 19), "the first does, less", 21, 2, 3, 3);
        dueSettled(joined(40, 19, 20), "the second does, as much", 40, 3, 3, 2);
        dueSettled(joined(41, 19, 20), "the second does, less", 41, 2, 3, 3);
        dueSettled(joined(19, 20, 20), "both do, the whole does not", 60, 3, 2, 2);
        dueSettled(joined(0, 19, 20), "only the second", 40, 3, 3, 2);
        dueSettled(joined(0, 20, 0), "only the first", 20, 3, 2, 3);
    }

    private static void dueTrace(AuctionRoom x, String what, int... bodies) {
        x.settle(0);
        Check.trace(what, x, bodies);
    }

    private static void settleTrace() {
        Check.sentence("Promise 20", "SOLD is asked of it, and PIECES if it says so;"
            + " then likewise of its parts, in order as they were told.");
        dueTrace(joined(0, 0, 0), "nothing", 11, 11, 11);
        dueTrace(joined(20, 0, 0), "the whole", 11, 4, 11, 11, 4);
        dueTrace(joined(0, 20, 0), "the first", 11, 11, 4, 11, 4);
        dueTrace(joined(0, 0, 20), "the second", 11, 11, 11, 5, 5);
        dueTrace(joined(0, 20, 20), "both parts", 11, 11, 4, 11, 5, 4, 5);
        dueTrace(joined(90, 20, 20), "all, the whole is sold", 11, 4, 11, 4, 11, 5, 4);
        dueTrace(joined(60, 20, 20), "all, the parts are sold", 11, 4, 11, 4, 11, 5, 4, 5);
    }

    /** As joined, but with sellers only where told, and each from 1 on with a bid. */
    private static AuctionRoom sold(boolean[] sellers, long whole) {
        AuctionRoom x = Check.room();
        for (int l = 0; l < 3; l++) {
            x.lot(l + 1, 1, 0);
            if (sellers[l]) x.seller(l, 5);
        }
        x.join(0, 1, 2);
        for (int l = 0; l < 3; l++) {
            x.call(l);
            x.bid(l, 0, l == 0 ? whole : 1);
        }
        return x;
    }

    private static void dueRefused(AuctionRoom x, String what, int... bodies) {
        long before = x.digest();
        Check.due(what, x.settle(0), -5);
        Check.trace(what, x, bodies);
        Check.due(what + ": nothing changed", x.digest(), before);
    }

    private static void settleWithoutSeller() {
        Check.sentence("Promise 20", "5 comes behind those of the first one without a seller");
        dueRefused(sold(new boolean[] {false, true, true}, 15), "the whole", 11, 4, 11, 5, 11, 6, 5, 4);
        dueRefused(sold(new boolean[] {true, false, true}, 14), "the first", 11, 4, 11, 5, 11, 6, 5, 5);
        dueRefused(sold(new boolean[] {true, true, false}, 14), "the second", 11, 4, 11, 5, 11, 6, 5, 5, 6, 5);
        dueRefused(sold(new boolean[] {true, false, false}, 14), "both", 11, 4, 11, 5, 11, 6, 5, 5);
    }

    private static void settleNeedsNoSellerOfWhatPasses() {
        Check.sentence("Promise 20", "Answers what was brought in all by what is sold");
        Check.due("the whole passes", sold(new boolean[] {false, true, true}, 14).settle(0), 14);
        Check.due("the parts pass", sold(new boolean[] {true, false, false}, 15).settle(0), 15);
    }

    private static void reofferStates() {
        Check.sentence("Promise 21", "Reasons: 1 (no sum); l is looked up; 9: it did not pass");
        AuctionRoom x = Check.room();
        Check.due("1 ahead of 3", x.reoffer(-1, 0), -1);
        Check.due("1 ahead of 2", x.reoffer(0, Check.SUM + 1), -1);
        for (int kind = 1; kind <= 5; kind++) {
            int l = Check.newLot(x, kind, 10, 0);
            Check.due("1 ahead of 9", x.reoffer(l, 0), -1);
            Check.due("new", x.reoffer(l, 10), -9);
            x.call(l);
            Check.due("called", x.reoffer(l, 10), -9);
            x.hammer(l);
            Check.due("passed", x.reoffer(l, 10), 1);
            Check.due("new again", x.reoffer(l, 10), -9);
        }
        Check.due("sold", x.reoffer(Check.soldLot(x, 1, 10), 10), -9);
    }

    private static void reofferStart() {
        Check.sentence("Promise 21", "A lot that passed is new again, with another START");
        for (long start : new long[] {1, 10, 11, Check.SUM}) {
            for (int kind = 1; kind <= 5; kind++) {
                AuctionRoom x = Check.room();
                int l = Check.passedLot(x, kind, 10, 1);
                Check.due("reoffer", x.reoffer(l, start), 1);
                Check.due("state", x.state(l), 0);
                Check.due("call", x.call(l), 0);
                Check.due("START of kind " + kind, x.ask(l), start);
            }
        }
    }

    private static void reofferFalling() {
        Check.sentence("Promise 21", "10: it is FALLING, and START would be below RESERVE.");
        AuctionRoom x = Check.room();
        for (int kind = 1; kind <= 5; kind++) {
            int l = Check.passedLot(x, kind, 100, 40);
            Check.due("below RESERVE, kind " + kind, x.reoffer(l, 39), kind == 5 ? -10 : 1);
            Check.due("state", x.state(l), kind == 5 ? 3 : 0);
        }
        int at = Check.passedLot(x, 5, 100, 40);
        Check.due("at RESERVE", x.reoffer(at, 40), 1);
        int called = Check.calledLot(x, 5, 100, 40);
        Check.due("9 ahead of 10", x.reoffer(called, 39), -9);
        int none = Check.passedLot(x, 5, 100, 0);
        Check.due("no RESERVE", x.reoffer(none, 1), 1);
    }

    private static void reofferIsNewAgain() {
        Check.sentence("Promise 21", "without book, limits and PRICE (CUT and SELLERS stay)");
        AuctionRoom x = Check.room();
        int l = Check.newLot(x, 1, 10, 90);
        x.cut(l, 77);
        x.limit(l, 2, 50);
        x.call(l);
        x.bid(l, 0, 60);
        x.hammer(l);
        Check.due("reoffer", x.reoffer(l, 10), 1);
        Check.due("no book", x.entries(l), -1);
        Check.due("nothing stands", x.stands(l), -1);
        Check.due("no sum stands", x.sum(l), 0);
        Check.due("no FIRST", x.cause(l, 0), 0);
        Check.due("no SECOND", x.cause(l, 1), 0);
        Check.due("CUT stays", x.cut(l, 78), 77);
        Check.due("SELLERS stay", x.seller(l, 5), -8);
        Check.due("no limits", x.call(l), 0);
        Check.due("he has not written", x.limit(l, 2, 50), 3);
        Check.due("the old bid is no rival", x.cause(l, 1), 0);
        Check.due("RESERVE stays", x.hammer(l), 0);
        int falling = Check.calledLot(x, 5, 100, 40);
        x.tick(falling, 10);
        x.hammer(falling);
        x.reoffer(falling, 80);
        Check.due("no PRICE", x.ask(falling), -6);
        x.call(falling);
        Check.due("a PRICE of its own", x.ask(falling), 80);
        int sealed = Check.calledLot(x, 4, 10, 0);
        x.bid(sealed, 0, 500);
        x.bid(sealed, 1, 600);
        Check.due("it passes unopened", x.hammer(sealed), 0);
        x.reoffer(sealed, 10);
        x.call(sealed);
        Check.due("he has no entry", x.bid(sealed, 0, 300) > 0);
        Check.due("the old ones are gone", x.open(sealed), 10);
        Check.due("he stands", x.stands(sealed), 0);
    }

    private static void reofferParts() {
        Check.sentence("Promise 21", "a whole and its parts, of which it is one, are not joined any more.");
        for (int again = 0; again < 3; again++) {
            AuctionRoom x = joined(0, 0, 0);
            x.settle(0);
            Check.due("joined yet", x.settle(0), -9);
            Check.due("reoffer", x.reoffer(again, 10), 1);
            Check.due("no whole any more", x.settle(0), -14);
            for (int l = 0; l < 3; l++) if (l != again) x.reoffer(l, 10);
            Check.due("joined otherwise", x.join(1, 2, 0), 1);
            for (int l = 0; l < 3; l++) x.call(l);
            Check.due("it is no whole", x.settle(0), -14);
            Check.due("another is", x.settle(1), 0);
        }
        AuctionRoom y = joined(0, 20, 0);
        y.settle(0);
        Check.due("the whole", y.reoffer(0, 10), 1);
        y.call(0);
        Check.due("it ends for itself", y.hammer(0), 0);
        Check.due("the other part", y.reoffer(2, 10), 1);
        y.call(2);
        Check.due("it ends for itself", y.hammer(2), 0);
    }
}
