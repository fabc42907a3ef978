/** The sentences of 'Terms' on bodies, papers and sales that name a boundary. */
final class BodiesEdges {
    private BodiesEdges() {
    }

    static void run() {
        askOfSingles();
        askOfSealed();
        askOfFalling();
        pieces();
        mayOfHouse();
        mayOfRoomAndPaper();
        mayOfAgent();
        mayOfAgentByStates();
        mayOfAgentOfGreatSums();
        soldOfSingles();
        soldOfSealed();
        soldOfFalling();
        papersWhenCalled();
        papersBehindBidAndLimit();
        papersOfOtherKinds();
        rivalsFromStartOn();
        onlyTheLatestBid();
        firstOfEqualOnes();
        firstStandsAt();
        noSecond();
        noLessThanAlready();
        entryIsMade();
        firstIsTheBid();
        saleShared();
        saleOfAllToTheHouse();
        sharingByNought();
    }

    private static void askOfSingles() {
        Check.sentence("Terms", "1 (SINGLE, PAIR, DOZEN): START if nothing stands, else AFTER of the sum that stands.");
        for (int kind = 1; kind <= 3; kind++) {
            AuctionRoom x = Check.room();
            x.step(0, 4);
            int l = Check.calledLot(x, kind, 10, 500);
            Check.due("nothing stands", x.ask(l), 10);
            Check.trace("nothing stands", x, 1);
            x.bid(l, 0, 10);
            Check.due("START stands", x.ask(l), 14);
            Check.trace("START stands", x, 1);
        }
    }

    private static void askOfSealed() {
        Check.sentence("Terms", "2 (SEALED), behind it 1 runs, as if nothing stood: what that says.");
        AuctionRoom x = Check.room();
        int l = Check.calledLot(x, 4, 10, 500);
        x.bid(l, 0, 600);
        Check.due("it has an entry", x.ask(l), 10);
        Check.trace("it has an entry", x, 2, 1);
        x.open(l);
        Check.due("it was opened", x.ask(l), 10);
        Check.trace("it was opened", x, 2, 1);
    }

    private static void askOfFalling() {
        Check.sentence("Terms", "3 (FALLING): its PRICE.");
        AuctionRoom x = Check.room();
        int l = Check.calledLot(x, 5, 10, 4);
        Check.due("START", x.ask(l), 10);
        x.tick(l, 5);
        Check.due("it fell", x.ask(l), 5);
        Check.trace("it fell", x, 3);
        x.tick(l, 5);
        Check.due("RESERVE", x.ask(l), 4);
        x.take(l, 0);
        Check.due("it was taken", x.ask(l), 4);
    }

    private static void pieces() {
        Check.sentence("Terms", "4 (SINGLE, SEALED, FALLING): 1. 5 (PAIR): 2. 6 (DOZEN), behind it 5 runs: six times what that says.");
        AuctionRoom x = Check.room();
        for (int kind = 1; kind <= 5; kind++) {
            int l = Check.calledLot(x, kind, 10, 0);
            if (kind == 5) x.take(l, 0);
            else x.bid(l, 0, 10);
            if (kind == 4) x.open(l);
            Check.due("kind " + kind, x.hammer(l), new long[] {10, 20, 120, 10, 10}[kind - 1]);
            if (kind == 1) Check.trace("SINGLE", x, 11, 4);
            if (kind == 2) Check.trace("PAIR", x, 11, 5);
            if (kind == 3) Check.trace("DOZEN", x, 11, 6, 5);
            if (kind == 4) Check.trace("SEALED", x, 12, 11, 4);
            if (kind == 5) Check.trace("FALLING", x, 13, 4);
        }
    }

    private static void mayOfHouse() {
        Check.sentence("Terms", "8 (HOUSE): if the sum is below the lot's RESERVE.");
        AuctionRoom x = Check.room();
        int l = Check.calledLot(x, 1, 10, 50);
        Check.due("above RESERVE", x.bid(l, 5, 51), -11);
        Check.due("at RESERVE", x.bid(l, 5, 50), -11);
        Check.trace("at RESERVE", x, 1, 8);
        Check.due("below RESERVE", x.bid(l, 5, 49), 1);
        Check.trace("below RESERVE", x, 1, 8);
        int sealed = Check.calledLot(x, 4, 10, 50);
        Check.due("sealed, at RESERVE", x.bid(sealed, 5, 50), -11);
        Check.due("sealed, below RESERVE", x.bid(sealed, 5, 49), 2);
        int none = Check.calledLot(x, 1, 1, 0);
        Check.due("no RESERVE", x.bid(none, 5, 1), -11);
        int one = Check.calledLot(x, 1, 1, 1);
        Check.due("RESERVE 1", x.bid(one, 5, 1), -11);
        int two = Check.calledLot(x, 1, 1, 2);
        Check.due("RESERVE 2", x.bid(two, 5, 1), 3);
    }

    private static void mayOfRoomAndPaper() {
        Check.sentence("Terms", "7 (ROOM): he may.");
        Check.sentence("Terms", "9 (PAPER): he may.");
        AuctionRoom x = Check.room();
        int l = Check.calledLot(x, 3, 10, 50);
        Check.due("the greatest limit", x.limit(l, 2, Check.SUM), 1);
        Check.trace("PAPER", x, 9);
        Check.due("the greatest bid", x.bid(l, 0, Check.SUM), 2);
        Check.trace("ROOM", x, 1, 7);
    }

    private static void mayOfAgent() {
        Check.sentence("Terms", "if all his limits there, each times its pieces,"
            + " and the sum times the lot's pieces, are together not above his PURSE.");
        for (int kind = 1; kind <= 3; kind++) {
            int pieces = new int[] {1, 2, 12}[kind - 1];
            AuctionRoom x = new AuctionRoom();
            x.bidder(3, 10 * pieces);
            x.bidder(3, 10 * pieces - 1);
            x.bidder(3, 0);
            x.lot(kind, 1, 0);
            Check.due("one above his purse", x.limit(0, 1, 10), -11);
            Check.due("no purse", x.limit(0, 2, 1), -11);
            Check.due("just his purse", x.limit(0, 0, 10), 1);
            x.lot(1, 1, 0);
            Check.due("nothing is left", x.limit(1, 0, 1), -11);
            Check.due("another has his own", x.limit(1, 1, 10 * pieces - 1), 2);
        }
        AuctionRoom y = new AuctionRoom();
        y.bidder(3, 100);
        for (int kind = 1; kind <= 3; kind++) y.lot(kind, 1, 0);
        Check.due("a DOZEN's limit", y.limit(2, 0, 5), 1);
        Check.due("a PAIR's beside it", y.limit(1, 0, 18), 2);
        Check.due("a SINGLE's beside both, one too much", y.limit(0, 0, 5), -11);
        Check.trace("by numbers", y, 10, 9, 4, 5, 6, 5);
        Check.due("a SINGLE's beside both", y.limit(0, 0, 4), 3);
    }

    private static void mayOfAgentByStates() {
        Check.sentence("Terms", "then PIECES of each new or called lot, by numbers, on which he has written");
        AuctionRoom x = Check.room();
        int sold = Check.newLot(x, 2, 10, 0);
        int passed = Check.newLot(x, 1, 10, 900);
        int called = Check.newLot(x, 1, 10, 0);
        int fresh = Check.newLot(x, 3, 10, 0);
        int other = Check.newLot(x, 1, 10, 0);
        for (int l : new int[] {sold, passed, called, fresh}) Check.due("limit", x.limit(l, 4, 50) > 0);
        for (int l : new int[] {sold, passed, called}) Check.due("call", x.call(l), 1);
        Check.due("all four count", x.limit(other, 4, 201), -11);
        Check.trace("all four count", x, 10, 9, 4, 5, 4, 4, 6, 5);
        Check.due("sold", x.hammer(sold), 20);
        Check.due("a sold one counts no more", x.limit(other, 4, 301), -11);
        Check.trace("a sold one counts no more", x, 10, 9, 4, 4, 4, 6, 5);
        Check.due("passed", x.hammer(passed), 0);
        Check.due("a passed one counts no more", x.limit(other, 4, 351), -11);
        Check.trace("a passed one counts no more", x, 10, 9, 4, 4, 6, 5);
        Check.due("reoffer", x.reoffer(passed, 10), 1);
        Check.due("new again, but he has not written", x.limit(other, 4, 351), -11);
        Check.trace("new again, but he has not written", x, 10, 9, 4, 4, 6, 5);
        Check.due("just his purse", x.limit(other, 4, 350), 5);
    }

    private static void mayOfAgentOfGreatSums() {
        Check.sentence("Terms", "if all his limits there, each times its pieces,"
            + " and the sum times the lot's pieces, are together not above his PURSE.");
        AuctionRoom x = new AuctionRoom();
        x.bidder(3, Check.SUM);
        x.lot(3, 1, 0);
        Check.due("12 * 10^12", x.limit(0, 0, Check.SUM), -11);
        Check.due("12 * 83333333334", x.limit(0, 0, 83_333_333_334L), -11);
        Check.due("12 * 83333333333", x.limit(0, 0, 83_333_333_333L), 1);
        x.lot(1, 1, 0);
        Check.due("5 more", x.limit(1, 0, 5), -11);
        Check.due("4 more", x.limit(1, 0, 4), 2);
    }

    private static void soldOfSingles() {
        Check.sentence("Terms", "11 (SINGLE, PAIR, DOZEN): if something stands, and its sum is RESERVE or more.");
        for (int kind = 1; kind <= 3; kind++) {
            AuctionRoom x = Check.room();
            int nothing = Check.calledLot(x, kind, 10, 0);
            Check.due("nothing stands", x.hammer(nothing), 0);
            Check.trace("nothing stands", x, 11);
            Check.due("it passed", x.state(nothing), 3);
            int below = Check.calledLot(x, kind, 10, 20);
            x.bid(below, 0, 19);
            Check.due("below RESERVE", x.hammer(below), 0);
            Check.due("it passed", x.state(below), 3);
            int at = Check.calledLot(x, kind, 10, 20);
            x.bid(at, 0, 20);
            Check.due("at RESERVE", x.hammer(at), 20 * new int[] {1, 2, 12}[kind - 1]);
            Check.due("it is sold", x.state(at), 2);
        }
    }

    private static void soldOfSealed() {
        Check.sentence("Terms", "12 (SEALED), behind it 11 runs: if it was opened, and what that says.");
        AuctionRoom x = Check.room();
        int closed = Check.calledLot(x, 4, 10, 0);
        x.bid(closed, 0, 15);
        Check.due("it was not opened", x.hammer(closed), 0);
        Check.trace("it was not opened", x, 12, 11);
        int low = Check.calledLot(x, 4, 10, 16);
        x.bid(low, 0, 15);
        x.open(low);
        Check.due("nothing stands", x.hammer(low), 0);
        Check.trace("nothing stands", x, 12, 11);
        int at = Check.calledLot(x, 4, 10, 15);
        x.bid(at, 0, 15);
        x.open(at);
        Check.due("at RESERVE", x.hammer(at), 15);
        Check.trace("at RESERVE", x, 12, 11, 4);
    }

    private static void soldOfFalling() {
        Check.sentence("Terms", "13 (FALLING): if something stands.");
        AuctionRoom x = Check.room();
        int nothing = Check.calledLot(x, 5, 10, 0);
        Check.due("nothing stands", x.hammer(nothing), 0);
        Check.trace("nothing stands", x, 13);
        int taken = Check.calledLot(x, 5, 10, 10);
        x.take(taken, 0);
        Check.due("taken at RESERVE", x.hammer(taken), 10);
        Check.trace("taken at RESERVE", x, 13, 4);
    }

    private static void papersWhenCalled() {
        Check.sentence("Terms", "PAPERS ARE ASKED about a SINGLE, PAIR or DOZEN when it is called");
        for (int kind = 1; kind <= 3; kind++) {
            AuctionRoom x = Check.room();
            int l = Check.newLot(x, kind, 10, 0);
            x.limit(l, 2, 30);
            x.limit(l, 3, 20);
            Check.due("not while it is new", x.cause(l, 0), 0);
            Check.due("one entry", x.call(l), 1);
            Check.trace("no body runs for it", x);
            Check.due("stands", x.stands(l), 2);
            Check.due("sum", x.sum(l), 21);
            Check.due("first", x.cause(l, 0), 1);
            Check.due("second", x.cause(l, 1), 2);
        }
    }

    private static void papersBehindBidAndLimit() {
        Check.sentence("Terms", "and behind each bid and limit on it that is done while it is called.");
        AuctionRoom x = Check.room();
        int l = Check.calledLot(x, 1, 10, 0);
        x.limit(l, 2, 30);
        Check.due("behind a limit", x.sum(l), 10);
        x.bid(l, 0, 15);
        Check.due("behind a bid", x.sum(l), 16);
        Check.due("a refused bid", x.bid(l, 0, 16), -10);
        Check.due("nobody is asked behind it", x.cause(l, 1), 2);
        Check.due("nor behind a limit on another lot", x.limit((int) x.lot(1, 1, 0), 3, 40), 3);
        Check.due("second", x.cause(l, 1), 2);
    }

    private static void papersOfOtherKinds() {
        Check.sentence("Terms", "PAPERS ARE ASKED about a SINGLE, PAIR or DOZEN when it is called");
        AuctionRoom x = Check.room();
        int sealed = Check.calledLot(x, 4, 10, 0);
        Check.due("bid", x.bid(sealed, 0, 15), 1);
        Check.due("not about a SEALED one", x.cause(sealed, 0), 0);
        int falling = Check.calledLot(x, 5, 10, 0);
        x.take(falling, 0);
        Check.due("not about a FALLING one", x.cause(falling, 0), 0);
    }

    private static void rivalsFromStartOn() {
        Check.sentence("Terms", "RIVALS are its limits that are START or more, and the latest bid.");
        AuctionRoom x = Check.room();
        int l = Check.newLot(x, 1, 10, 0);
        x.limit(l, 2, 9);
        Check.due("below START", x.call(l), 0);
        Check.due("no first", x.cause(l, 0), 0);
        x.limit(l, 3, 10);
        Check.due("at START", x.stands(l), 3);
        Check.due("first", x.cause(l, 0), 2);
        Check.due("no second", x.cause(l, 1), 0);
    }

    private static void onlyTheLatestBid() {
        Check.sentence("Terms", "RIVALS are its limits that are START or more, and the latest bid.");
        AuctionRoom x = Check.room();
        int l = Check.calledLot(x, 1, 10, 0);
        x.bid(l, 0, 20);
        x.bid(l, 1, 21);
        Check.due("the latest is first", x.cause(l, 0), 2);
        Check.due("the one before is no rival", x.cause(l, 1), 0);
        x.limit(l, 2, 10);
        Check.due("a limit is", x.cause(l, 1), 3);
    }

    private static void firstOfEqualOnes() {
        Check.sentence("Terms", "FIRST is the greatest, of equal ones that with the least number; SECOND is that of the others.");
        AuctionRoom x = Check.room();
        x.bidder(2, 0);
        int l = Check.newLot(x, 1, 10, 0);
        x.limit(l, 3, 30);
        x.limit(l, 2, 30);
        x.limit(l, 6, 30);
        x.call(l);
        Check.due("the least number", x.cause(l, 0), 1);
        Check.due("the least of the others", x.cause(l, 1), 2);
        Check.due("he stands", x.stands(l), 3);
        int mixed = Check.calledLot(x, 1, 10, 0);
        x.bid(mixed, 0, 30);
        x.limit(mixed, 2, 30);
        Check.due("a bid ahead of a limit as great", x.cause(mixed, 0), 4);
        Check.due("the bid stands", x.stands(mixed), 0);
        x.limit(mixed, 3, 31);
        Check.due("a greater one", x.cause(mixed, 0), 6);
        Check.due("the bid is second", x.cause(mixed, 1), 4);
        int limit = Check.newLot(x, 1, 10, 0);
        x.limit(limit, 2, 30);
        x.call(limit);
        x.bid(limit, 0, 30);
        Check.due("a limit ahead of a bid as great", x.cause(limit, 0), 7);
        Check.due("the limit stands", x.stands(limit), 2);
        Check.due("at itself", x.sum(limit), 30);
    }

    private static void firstStandsAt() {
        Check.sentence("Terms", "its bidder is to stand at the lesser of it and the greatest of RESERVE and AFTER of SECOND");
        // With steps of 5 AFTER of 20 is 25: reserves and limits about that.
        long[][] reserveLimitSum = {{0, 24, 24}, {0, 25, 25}, {0, 26, 25}, {24, 40, 25}, {25, 40, 25},
            {26, 40, 26}, {26, 25, 25}, {40, 40, 40}, {41, 40, 40}, {39, 40, 39}};
        for (long[] row : reserveLimitSum) {
            AuctionRoom x = Check.room();
            x.step(0, 5);
            int l = Check.newLot(x, 1, 10, row[0]);
            x.limit(l, 2, 20);
            x.limit(l, 3, row[1]);
            Check.due("entries", x.call(l), 1);
            Check.due("stands", x.stands(l), 3);
            Check.due("RESERVE " + row[0] + ", FIRST " + row[1], x.sum(l), row[2]);
        }
    }

    private static void noSecond() {
        Check.sentence("Terms", "(START, if there is no SECOND)");
        long[][] reserveLimitSum = {{0, 10, 10}, {0, 30, 10}, {9, 30, 10}, {10, 30, 10}, {11, 30, 11}, {31, 30, 30}};
        for (long[] row : reserveLimitSum) {
            AuctionRoom x = Check.room();
            int l = Check.newLot(x, 1, 10, row[0]);
            x.limit(l, 2, row[1]);
            x.limit(l, 3, 9);
            x.call(l);
            Check.due("RESERVE " + row[0] + ", FIRST " + row[1], x.sum(l), row[2]);
        }
    }

    private static void noLessThanAlready() {
        Check.sentence("Terms", "but for no less than he stands at already.");
        AuctionRoom x = Check.room();
        x.bidder(2, 0);
        x.bidder(2, 0);
        x.step(0, 100);
        int l = Check.calledLot(x, 1, 10, 0);
        x.limit(l, 2, 500);
        x.limit(l, 3, 50);
        Check.due("AFTER of 50", x.sum(l), 150);
        x.step(60, 1);
        x.limit(l, 6, 70);
        Check.due("AFTER of 70 is 71", x.sum(l), 150);
        Check.due("no entry is made", x.entries(l), 2);
        Check.due("FIRST and SECOND are told", x.cause(l, 1), 3);
        x.limit(l, 7, 149);
        Check.due("AFTER of 149 is what he stands at", x.entries(l), 2);
    }

    private static void entryIsMade() {
        Check.sentence("Terms", "Stands another one, or none, or he for less, an entry is made so.");
        AuctionRoom x = Check.room();
        x.bidder(2, 0);
        int l = Check.calledLot(x, 1, 10, 0);
        x.limit(l, 2, 50);
        Check.due("none stood", x.entries(l), 1);
        x.limit(l, 3, 20);
        Check.due("he stood for less", x.entries(l), 2);
        Check.due("so", x.sum(l), 21);
        x.limit(l, 4, 20);
        Check.due("he stands so already", x.entries(l), 2);
        x.limit(l, 6, 60);
        Check.due("another one stood", x.entries(l), 3);
        Check.due("so", x.stands(l), 6);
    }

    private static void firstIsTheBid() {
        Check.sentence("Terms", "Is FIRST the bid, nothing is.");
        AuctionRoom x = Check.room();
        int l = Check.newLot(x, 1, 10, 100);
        x.limit(l, 2, 50);
        x.call(l);
        Check.due("the limit stands", x.sum(l), 50);
        x.bid(l, 0, 51);
        Check.due("one more entry: the bid's", x.entries(l), 2);
        Check.due("it stands", x.stands(l), 0);
        Check.due("first", x.cause(l, 0), 2);
        Check.due("second", x.cause(l, 1), 1);
    }

    private static void saleShared() {
        Check.sentence("Terms", "each of its n sellers (h - c) / n, the first ones, in order, one more,"
            + " as many as (h - c) has a rest by n.");
        for (int n = 1; n <= 4; n++) {
            for (int sum = 1; sum <= 9; sum++) {
                AuctionRoom x = Check.room();
                x.lot(1, sum, 0);
                for (int b = 5; b > 5 - n; b--) x.seller(0, b);
                x.call(0);
                x.bid(0, 0, sum);
                Check.due("hammer", x.hammer(0), sum);
                for (int i = 0; i < n; i++) {
                    Check.due(sum + " by " + n + ", seller " + i, x.balance(5 - i), (sum + n - 1 - i) / n);
                }
                Check.due("total", x.total(), 0);
            }
        }
    }

    private static void saleOfAllToTheHouse() {
        Check.sentence("Terms", "c EVEN of h and its CUT.");
        AuctionRoom x = Check.room();
        int l = Check.newLot(x, 3, Check.SUM, 0);
        x.seller(l, 1);
        x.cut(l, 10000);
        x.premium(0, 10000);
        x.tax(3, 10000);
        x.call(l);
        x.bid(l, 0, Check.SUM);
        Check.due("hammer", x.hammer(l), 12 * Check.SUM);
        Check.due("buyer", x.balance(0), -48 * Check.SUM);
        Check.due("house", x.account(0), 24 * Check.SUM);
        Check.due("taxes", x.account(1), 24 * Check.SUM);
        Check.due("no share", x.balance(5), 0);
        Check.due("no share", x.balance(1), 0);
        Check.due("total", x.total(), 0);
    }

    private static void sharingByNought() {
        Check.sentence("Terms", "Sharing by n = 0 is reason 5.");
        AuctionRoom x = Check.room();
        x.lot(1, 1, 0);
        x.cut(0, 10000);
        x.call(0);
        x.bid(0, 0, 1);
        Check.due("nothing to share, but by nought", x.hammer(0), -5);
        Check.due("it is called yet", x.state(0), 1);
        int one = Check.calledLot(x, 1, 1, 0);
        x.bid(one, 0, 1);
        Check.due("one seller", x.hammer(one), 1);
    }
}
