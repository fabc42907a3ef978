/** The sentences of 'Terms' that name a boundary, up to the bodies: each has a test of its own. */
final class TermsEdges {
    private static final long[] NO_SUMS = {0, -1, Check.SUM + 1, Long.MIN_VALUE, Long.MAX_VALUE};
    private static final int[] NO_RATES = {-1, 10001, Integer.MIN_VALUE, Integer.MAX_VALUE};

    private TermsEdges() {
    }

    static void run() {
        noSum();
        leastAndMostSum();
        noRate();
        leastAndMostRate();
        evenOfTwoAsNear();
        evenOfGreatSums();
        evenOfTax();
        numbersNoneTwice();
        numbersOfWhatIsDone();
        atMost200Bidders();
        balanceAtFirst();
        atMost400Lots();
        lotAtFirst();
        bookFromItsCallOn();
        whatStands();
        brings();
        atMost20Steps();
        after();
        atMost20Brackets();
        premiumOfEachRow();
        premiumMadeEvenOnce();
    }

    private static void noSum() {
        Check.sentence("Terms", "A SUM is 1 .. 10^12.");
        for (long no : NO_SUMS) {
            AuctionRoom x = Check.room();
            int l = Check.calledLot(x, 1, 1, 0);
            int falling = Check.calledLot(x, 5, 9, 0);
            int passed = Check.passedLot(x, 1, 1, 0);
            Check.due("start " + no, x.lot(1, no, 0), -1);
            if (no != 0) Check.due("reserve " + no, x.lot(1, 1, no), -1);
            Check.due("by " + no, x.step(0, no), -1);
            Check.due("bid " + no, x.bid(l, 0, no), -1);
            Check.due("limit " + no, x.limit(l, 2, no), -1);
            Check.due("tick " + no, x.tick(falling, no), -1);
            Check.due("reoffer " + no, x.reoffer(passed, no), -1);
            Check.due("pay " + no, x.pay(0, no), -1);
            Check.due("payOut " + no, x.payOut(0, no), -1);
        }
    }

    private static void leastAndMostSum() {
        Check.sentence("Terms", "A SUM is 1 .. 10^12.");
        for (long sum : new long[] {1, Check.SUM}) {
            AuctionRoom x = Check.room();
            int l = Check.calledLot(x, 1, 1, 0);
            int falling = Check.calledLot(x, 5, Check.SUM, 0);
            int passed = Check.passedLot(x, 1, 1, 0);
            Check.due("start and reserve " + sum, x.lot(1, sum, sum), 3);
            Check.due("by " + sum, x.step(0, sum), 1);
            Check.due("limit " + sum, x.limit(l, 2, sum), 1);
            Check.due("tick " + sum, x.tick(falling, sum), Math.max(1, Check.SUM - sum));
            Check.due("reoffer " + sum, x.reoffer(passed, sum), 1);
            Check.due("pay " + sum, x.pay(0, sum), sum);
            Check.due("payOut " + sum, x.payOut(0, sum), sum);
            int other = Check.calledLot(x, 1, 1, 0);
            Check.due("bid " + sum, x.bid(other, 0, sum), 2);
            Check.due("it stands", x.sum(other), sum);
            Check.due("the limit stands at START", x.sum(l), 1);
        }
    }

    private static void noRate() {
        Check.sentence("Terms", "A RATE is 0 .. 10000.");
        AuctionRoom x = Check.room();
        x.lot(1, 1, 0);
        for (int no : NO_RATES) {
            Check.due("cut " + no, x.cut(0, no), -1);
            Check.due("premium " + no, x.premium(0, no), -1);
            Check.due("tax " + no, x.tax(1, no), -1);
        }
        Check.due("no cut was set", x.cut(0, 0), 0);
        Check.due("no tax was set", x.tax(1, 0), 0);
        Check.due("no row was made", x.premium(0, 0), 1);
    }

    private static void leastAndMostRate() {
        Check.sentence("Terms", "A RATE is 0 .. 10000.");
        AuctionRoom x = Check.room();
        x.lot(1, 1, 0);
        Check.due("most cut", x.cut(0, 10000), 0);
        Check.due("least cut", x.cut(0, 0), 10000);
        Check.due("most tax", x.tax(1, 10000), 0);
        Check.due("least tax", x.tax(1, 0), 10000);
        Check.due("most premium", x.premium(0, 10000), 1);
        Check.due("least premium", x.premium(1, 0), 2);
    }

    /** What the house has of a SINGLE sold for a sum at a cut: EVEN of both. */
    private static long even(long sum, int rate) {
        AuctionRoom x = Check.room();
        int l = Check.newLot(x, 1, sum, 0);
        x.cut(l, rate);
        x.call(l);
        x.bid(l, 0, sum);
        Check.due("hammer", x.hammer(l), sum);
        Check.due("the seller has the rest", x.balance(5), sum - x.account(0));
        return x.account(0);
    }

    private static void evenOfTwoAsNear() {
        Check.sentence("Terms",
            "EVEN of x and a rate: x * rate / 10000 to the nearest cent, of two as near the even one.");
        Check.due("0.4999", even(4999, 1), 0);
        Check.due("0.5", even(5000, 1), 0);
        Check.due("0.5001", even(5001, 1), 1);
        Check.due("1.4999", even(14999, 1), 1);
        Check.due("1.5", even(15000, 1), 2);
        Check.due("1.5001", even(15001, 1), 2);
        Check.due("2.4999", even(24999, 1), 2);
        Check.due("2.5", even(25000, 1), 2);
        Check.due("2.5001", even(25001, 1), 3);
        Check.due("0.9999", even(1, 9999), 1);
        Check.due("at rate 0", even(7, 0), 0);
        Check.due("at rate 10000", even(7, 10000), 7);
    }

    private static void evenOfGreatSums() {
        Check.sentence("Terms",
            "EVEN of x and a rate: x * rate / 10000 to the nearest cent, of two as near the even one.");
        Check.due("the greatest sum at 10000", even(Check.SUM, 10000), Check.SUM);
        Check.due("999899999999.0001", even(Check.SUM - 1, 9999), 999_899_999_999L);
        Check.due("499999999999.5", even(Check.SUM - 1, 5000), 500_000_000_000L);
        Check.due("499999999998.5", even(Check.SUM - 3, 5000), 499_999_999_998L);
    }

    private static void evenOfTax() {
        Check.sentence("Terms", "t EVEN of h + p and the TAX of its kind");
        AuctionRoom x = Check.room();
        x.premium(0, 10000);
        for (int kind = 1; kind <= 5; kind++) x.tax(kind, kind == 2 ? 2500 : 10000);
        int l = Check.calledLot(x, 2, 1, 0);
        x.bid(l, 0, 1);
        x.hammer(l);
        // h and p are 2 each, of which a quarter is 1; of h alone it were 0.5, so 0.
        Check.due("taxes", x.account(1), 1);
        int more = Check.calledLot(x, 2, 3, 0);
        x.bid(more, 0, 3);
        x.hammer(more);
        Check.due("taxes: 3 more", x.account(1), 4);
        Check.due("buyer", x.balance(0), -5 - 15);
        Check.due("house", x.account(0), 2 + 6);
    }

    private static void numbersNoneTwice() {
        Check.sentence("Terms",
            "NUMBERS of bids are given by this room, 1, 2, .., and none twice, also behind taking back.");
        AuctionRoom x = Check.room();
        int l = Check.calledLot(x, 1, 1, 0);
        Check.due("none yet", x.numbers(0), 0);
        Check.due("the first", x.bid(l, 0, 1), 1);
        x.batch();
        Check.due("the second", x.limit(l, 2, 9), 2);
        x.undo();
        Check.due("behind undo", x.limit(l, 2, 9), 3);
        x.batch();
        Check.due("in a batch", x.bid(l, 1, 10), 4);
        Check.due("refused", x.bid(l, 1, 20), -13);
        Check.due("behind a refused act", x.bid(l, 1, 10), 5);
    }

    private static void numbersOfWhatIsDone() {
        Check.sentence("Terms", "Each bid and each limit that is done takes one;"
            + " an entry that papers make, and a taking, takes none.");
        AuctionRoom x = Check.room();
        int l = Check.newLot(x, 1, 5, 0);
        Check.due("a limit on a new lot", x.limit(l, 2, 50), 1);
        Check.due("papers make an entry", x.call(l), 1);
        Check.due("it takes none", x.numbers(0), 1);
        Check.due("a bid", x.bid(l, 0, 6), 2);
        Check.due("papers make one more", x.entries(l), 3);
        Check.due("it takes none", x.numbers(0), 2);
        int falling = Check.calledLot(x, 5, 5, 0);
        Check.due("a taking", x.take(falling, 0), 5);
        Check.due("takes none", x.numbers(0), 2);
        Check.due("a refused bid", x.bid(l, 0, 1), -10);
        Check.due("takes none", x.numbers(0), 2);
        Check.due("a refused limit", x.limit(l, 2, 60), -13);
        Check.due("takes none", x.numbers(0), 2);
        Check.due("a limit on a called lot", x.limit(l, 3, 1), 3);
    }

    private static void atMost200Bidders() {
        Check.sentence("Terms",
            "BIDDERS have numbers, from 0, in the order in which they were made; at most 200.");
        AuctionRoom x = new AuctionRoom();
        for (int b = 0; b < 200; b++) Check.due("bidder", x.bidder(1 + b % 4, 0), b);
        Check.due("one more", x.bidder(1, 0), -12);
        for (int b = 0; b < 200; b++) Check.due("kind", x.bidderKind(b), 1 + b % 4);
        Check.due("there is none behind", x.bidderKind(200), 0);
    }

    private static void balanceAtFirst() {
        Check.sentence("Terms", "Each has a BALANCE, 0 at first; an AGENT a PURSE.");
        AuctionRoom x = new AuctionRoom();
        for (int b = 0; b < 4; b++) {
            x.bidder(b + 1, 500);
            Check.due("balance", x.balance(b), 0);
            Check.due("a purse is no balance", x.payOut(b, 1), -10);
        }
    }

    private static void atMost400Lots() {
        Check.sentence("Terms", "LOTS have numbers, from 0; at most 400.");
        AuctionRoom x = new AuctionRoom();
        for (int l = 0; l < 400; l++) Check.due("lot", x.lot(1 + l % 5, 1, 0), l);
        Check.due("one more", x.lot(1, 1, 0), -12);
        Check.due("the last", x.kindOf(399), 5);
        Check.due("it can be called", x.call(399), 0);
        Check.due("there is none behind", x.kindOf(400), 0);
    }

    private static void lotAtFirst() {
        Check.sentence("Terms", "a CUT (a rate, 0 at first), SELLERS (at most 4 bidders, none at first)");
        for (int kind = 1; kind <= 5; kind++) {
            AuctionRoom x = Check.room();
            x.lot(kind, 7, 0);
            Check.due("state", x.state(0), 0);
            Check.due("cut", x.cut(0, 1), 0);
            for (int b = 0; b < 4; b++) Check.due("seller", x.seller(0, b), b + 1);
            Check.due("a fifth", x.seller(0, 4), -12);
        }
    }

    private static void bookFromItsCallOn() {
        Check.sentence("Terms",
            "From its call on it has a BOOK of ENTRIES, each a bidder and a sum, in order; a new lot has none.");
        AuctionRoom x = Check.room();
        int l = Check.newLot(x, 1, 5, 0);
        Check.due("new", x.entries(l), -1);
        x.call(l);
        Check.due("called", x.entries(l), 0);
        x.bid(l, 1, 8);
        x.bid(l, 0, 9);
        Check.due("the first one's bidder", x.bidderAt(l, 0), 1);
        Check.due("the first one's sum", x.sumAt(l, 0), 8);
        Check.due("the second one's bidder", x.bidderAt(l, 1), 0);
        Check.due("the second one's sum", x.sumAt(l, 1), 9);
        x.hammer(l);
        Check.due("sold", x.entries(l), 2);
        int passed = Check.passedLot(x, 1, 5, 0);
        Check.due("passed", x.entries(passed), 0);
        x.reoffer(passed, 5);
        Check.due("new again", x.entries(passed), -1);
    }

    private static void whatStands() {
        Check.sentence("Terms", "What STANDS is the bidder and sum of the latest entry"
            + " (of a SEALED lot: what open() told; till then nothing).");
        AuctionRoom x = Check.room();
        int l = Check.calledLot(x, 1, 5, 0);
        Check.due("nobody", x.stands(l), -1);
        x.bid(l, 1, 8);
        x.bid(l, 0, 9);
        Check.due("the latest bidder", x.stands(l), 0);
        Check.due("the latest sum", x.sum(l), 9);
        int sealed = Check.calledLot(x, 4, 5, 0);
        x.bid(sealed, 0, 8);
        x.bid(sealed, 1, 6);
        Check.due("sealed: nobody", x.stands(sealed), -1);
        Check.due("sealed: no sum", x.sum(sealed), 0);
        x.open(sealed);
        Check.due("opened: the bidder", x.stands(sealed), 0);
        Check.due("opened: the sum", x.sum(sealed), 6);
    }

    private static void brings() {
        Check.sentence("Terms", "Sums are for one piece of a lot;"
            + " what it BRINGS is the sum that stands times its PIECES.");
        long[] pieces = {1, 2, 12, 1, 1};
        for (long sum : new long[] {1, Check.SUM}) {
            for (int kind = 1; kind <= 5; kind++) {
                AuctionRoom x = Check.room();
                int l = Check.calledLot(x, kind, sum, 0);
                if (kind == 5) x.take(l, 0);
                else x.bid(l, 0, sum);
                if (kind == 4) x.open(l);
                Check.due("kind " + kind, x.hammer(l), sum * pieces[kind - 1]);
                Check.due("buyer of kind " + kind, x.balance(0), -sum * pieces[kind - 1]);
            }
        }
    }

    private static void atMost20Steps() {
        Check.sentence("Terms", "STEPS: a table of at most 20 rows, from and by, with rising from.");
        AuctionRoom x = Check.room();
        for (int row = 0; row < 20; row++) Check.due("row", x.step(10 * row, 1 + row), row + 1);
        Check.due("one more", x.step(1000, 1), -12);
        int l = Check.calledLot(x, 1, 189, 0);
        x.bid(l, 0, 189);
        Check.due("the 19th row", x.ask(l), 189 + 19);
        x.bid(l, 1, 1000);
        Check.due("the 20th row", x.ask(l), 1000 + 20);
    }

    /** ASK of a lot on which a sum stands: AFTER of it. */
    private static long after(AuctionRoom x, long sum) {
        int l = Check.calledLot(x, 1, sum, 0);
        x.bid(l, 0, sum);
        return x.ask(l);
    }

    private static void after() {
        Check.sentence("Terms",
            "AFTER of s: s and the by of the last row whose from is not above s; s + 1 if there is none.");
        AuctionRoom x = Check.room();
        Check.due("no rows", after(x, 100), 101);
        x.step(100, 7);
        Check.due("below the first row", after(x, 99), 100);
        Check.due("at the first row", after(x, 100), 107);
        Check.due("above the first row", after(x, 101), 108);
        x.step(200, 3);
        Check.due("below the second row", after(x, 199), 206);
        Check.due("at the second row", after(x, 200), 203);
        Check.due("the greatest sum", after(x, Check.SUM), Check.SUM + 3);
        x.step(Check.SUM, Check.SUM);
        Check.due("below the last row", after(x, Check.SUM - 1), Check.SUM + 2);
        Check.due("at the last row", after(x, Check.SUM), 2 * Check.SUM);
        AuctionRoom y = Check.room();
        y.step(0, 5);
        Check.due("from 0 on", after(y, 1), 6);
        y.batch();
        y.step(1, 8);
        Check.due("a row more", after(y, 1), 9);
        y.undo();
        Check.due("a row that was taken back is none", after(y, 1), 6);
    }

    /** What the house has of a lot sold for a sum without a cut. */
    private static long premium(AuctionRoom x, int kind, long sum) {
        long before = x.account(0);
        int l = Check.calledLot(x, kind, sum, 0);
        x.bid(l, 0, sum);
        Check.due("hammer", x.hammer(l) > 0);
        return x.account(0) - before;
    }

    private static void atMost20Brackets() {
        Check.sentence("Terms", "BRACKETS: a table of at most 20 rows, from and rate, likewise.");
        AuctionRoom x = Check.room();
        for (int row = 0; row < 20; row++) Check.due("row", x.premium(row, 10000 * (row % 2)), row + 1);
        Check.due("one more", x.premium(1000, 1), -12);
        Check.due("all rows count", premium(x, 1, 20), 10);
        Check.due("the last one has no end", premium(x, 1, 100), 90);
    }

    private static void premiumOfEachRow() {
        Check.sentence("Terms", "PREMIUM of x: for each row what of x lies above its from,"
            + " and not above the next row's, times its rate");
        AuctionRoom x = Check.room();
        Check.due("no rows", premium(x, 1, 50), 0);
        x.premium(100, 10000);
        Check.due("below the first row", premium(x, 1, 99), 0);
        Check.due("at the first row", premium(x, 1, 100), 0);
        Check.due("above the first row", premium(x, 1, 101), 1);
        Check.due("what brings, not what stands", premium(x, 2, 51), 2);
        x.premium(200, 5000);
        Check.due("below the second row", premium(x, 1, 199), 99);
        Check.due("at the second row", premium(x, 1, 200), 100);
        Check.due("above the second row", premium(x, 1, 202), 101);
        x.premium(Check.SUM, 10000);
        long half = (Check.SUM - 200) / 2;
        Check.due("at the third row", premium(x, 1, Check.SUM), 100 + half);
        Check.due("above the third row", premium(x, 3, Check.SUM), 100 + half + 11 * Check.SUM);
        AuctionRoom y = Check.room();
        y.premium(Check.SUM, 10000);
        Check.due("at the only row", premium(y, 1, Check.SUM), 0);
        Check.due("above the only row", premium(y, 3, Check.SUM), 11 * Check.SUM);
        AuctionRoom z = Check.room();
        z.premium(0, 1000);
        z.batch();
        z.premium(50, 10000);
        Check.due("a row more", premium(z, 1, 100), 55);
        z.undo();
        Check.due("a row that was taken back is none", premium(z, 1, 100), 10);
    }

    private static void premiumMadeEvenOnce() {
        Check.sentence("Terms", "all of these together / 10000, made even as EVEN is, once.");
        AuctionRoom x = Check.room();
        x.premium(0, 5000);
        x.premium(1, 5000);
        x.premium(4, 4999);
        Check.due("0.5 is 0", premium(x, 1, 1), 0);
        Check.due("0.5 and 0.5 are 1, not 0 and 0", premium(x, 1, 2), 1);
        Check.due("0.5 and 1 are 2, for 1 is odd", premium(x, 1, 3), 2);
        Check.due("0.5 and 1.5 are 2", premium(x, 1, 4), 2);
        Check.due("2.4999 is 2", premium(x, 1, 5), 2);
        Check.due("2.9998 is 3", premium(x, 1, 6), 3);
    }
}
