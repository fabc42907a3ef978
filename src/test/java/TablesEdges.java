/** Promises 1 to 8: each sentence that names a boundary, and the order of reasons. */
final class TablesEdges {
    private TablesEdges() {
    }

    static void run() {
        newObject();
        bidderKinds();
        purses();
        bidders200();
        lotKinds();
        startAndReserve();
        reserveOfFalling();
        lots400();
        sellerReasons();
        sellerAgain();
        sellers4();
        cutReasons();
        cutAnswers();
        stepNumbers();
        stepRising();
        steps20();
        premiumNumbers();
        premiumRising();
        premiums20();
        taxReasons();
        taxAnswers();
    }

    private static void newObject() {
        Check.sentence("Promise 1",
            "No bidder, no lot, empty tables, all taxes and accounts 0; WHY 0; no batch.");
        AuctionRoom x = new AuctionRoom();
        Check.due("why", x.why(), 0);
        Check.due("batches", x.batches(), 0);
        Check.due("tries", x.tries(), 0);
        Check.due("numbers", x.numbers(0), 0);
        Check.due("no trace", x.trace(0), 0);
        Check.due("no bidder", x.bidderKind(0), 0);
        Check.due("no lot", x.kindOf(0), 0);
        for (int what = 0; what < 3; what++) Check.due("account", x.account(what), 0);
        Check.due("total", x.total(), 0);
        Check.due("no lot to call", x.call(0), -2);
        Check.due("no bidder to pay", x.pay(0, 1), -2);
        for (int kind = 1; kind <= 5; kind++) Check.due("tax", x.tax(kind, 1), 0);
        Check.due("steps", x.step(0, 1), 1);
        Check.due("brackets", x.premium(0, 1), 1);
        Check.due("the first bidder", x.bidder(1, 0), 0);
        Check.due("the first lot", x.lot(1, 1, 0), 0);
        Check.due("no batch to end", x.end(), -14);
        AuctionRoom other = new AuctionRoom();
        Check.due("another room has its own", other.bidderKind(0), 0);
    }

    private static void bidderKinds() {
        Check.sentence("Promise 2", "1 (kind not 1 .. 4");
        AuctionRoom x = new AuctionRoom();
        for (int no : new int[] {0, 5, -1, Integer.MIN_VALUE, Integer.MAX_VALUE}) {
            Check.due("kind " + no, x.bidder(no, 0), -1);
        }
        for (int kind = 1; kind <= 4; kind++) Check.due("kind " + kind, x.bidder(kind, 0), kind - 1);
    }

    private static void purses() {
        Check.sentence("Promise 2", "of an AGENT a purse not 0 .. 10^12; of others it is not looked at");
        AuctionRoom x = new AuctionRoom();
        int made = 0;
        for (long no : new long[] {-1, Check.SUM + 1, Long.MIN_VALUE, Long.MAX_VALUE}) {
            Check.due("an AGENT's " + no, x.bidder(3, no), -1);
            for (int kind : new int[] {1, 2, 4}) Check.due("kind " + kind, x.bidder(kind, no), made++);
        }
        Check.due("an AGENT's 0", x.bidder(3, 0), made);
        Check.due("an AGENT's 10^12", x.bidder(3, Check.SUM), made + 1);
        x.lot(1, 1, 0);
        Check.due("nothing in it", x.limit(0, made, 1), -11);
        Check.due("all in it", x.limit(0, made + 1, Check.SUM), 1);
    }

    private static void bidders200() {
        Check.sentence("Promise 2", "12: 200 are made.");
        AuctionRoom x = new AuctionRoom();
        for (int b = 0; b < 199; b++) x.bidder(1, 0);
        x.batch();
        Check.due("the 200th", x.bidder(1, 0), 199);
        x.undo();
        Check.due("it was taken back: again the 200th", x.bidder(2, 0), 199);
        Check.due("of its own kind", x.bidderKind(199), 2);
        Check.due("one more", x.bidder(1, 0), -12);
        Check.due("1 comes ahead", x.bidder(3, -1), -1);
        Check.due("1 comes ahead", x.bidder(0, 0), -1);
        Check.due("the last one is there", x.pay(199, 5), 5);
    }

    private static void lotKinds() {
        Check.sentence("Promise 3", "1 (kind not 1 .. 5");
        AuctionRoom x = new AuctionRoom();
        for (int no : new int[] {0, 6, -1, Integer.MIN_VALUE, Integer.MAX_VALUE}) {
            Check.due("kind " + no, x.lot(no, 1, 0), -1);
        }
        for (int kind = 1; kind <= 5; kind++) Check.due("kind " + kind, x.lot(kind, 1, 0), kind - 1);
    }

    private static void startAndReserve() {
        Check.sentence("Promise 3", "start no sum, reserve not 0 and no sum");
        for (int kind = 1; kind <= 5; kind++) {
            AuctionRoom x = new AuctionRoom();
            Check.due("start 0", x.lot(kind, 0, 0), -1);
            Check.due("start -1", x.lot(kind, -1, 0), -1);
            Check.due("start too much", x.lot(kind, Check.SUM + 1, 0), -1);
            Check.due("reserve -1", x.lot(kind, 1, -1), -1);
            Check.due("reserve too much", x.lot(kind, Check.SUM, Check.SUM + 1), -1);
            Check.due("least", x.lot(kind, 1, 0), 0);
            Check.due("reserve 1", x.lot(kind, 1, 1), 1);
            Check.due("most", x.lot(kind, Check.SUM, Check.SUM), 2);
        }
    }

    private static void reserveOfFalling() {
        Check.sentence("Promise 3", "of a FALLING one above start");
        AuctionRoom x = new AuctionRoom();
        Check.due("falling, above", x.lot(5, 10, 11), -1);
        Check.due("falling, equal", x.lot(5, 10, 10), 0);
        Check.due("falling, below", x.lot(5, 10, 9), 1);
        for (int kind = 1; kind <= 4; kind++) Check.due("another, above", x.lot(kind, 10, 11), kind + 1);
    }

    private static void lots400() {
        Check.sentence("Promise 3", "12: 400 are made.");
        AuctionRoom x = new AuctionRoom();
        for (int l = 0; l < 399; l++) x.lot(1, 1, 0);
        x.batch();
        Check.due("the 400th", x.lot(1, 1, 0), 399);
        x.undo();
        Check.due("it was taken back: again the 400th", x.lot(2, 1, 0), 399);
        Check.due("of its own kind", x.kindOf(399), 2);
        Check.due("one more", x.lot(1, 1, 0), -12);
        Check.due("1 comes ahead", x.lot(1, 0, 0), -1);
        Check.due("the last one is there", x.call(399), 0);
    }

    private static void sellerReasons() {
        Check.sentence("Promise 4", "l is looked up; b is looked up; 9: it is not new");
        AuctionRoom x = Check.room();
        Check.due("lot ahead of bidder", x.seller(-1, 6), -3);
        Check.due("lot ahead of bidder", x.seller(0, -1), -2);
        int called = Check.calledLot(x, 1, 10, 0);
        Check.due("bidder ahead of 9", x.seller(called, 200), -3);
        Check.due("bidder ahead of 9", x.seller(called, 6), -2);
        Check.due("called", x.seller(called, 0), -9);
        Check.due("9 ahead of 8", x.seller(called, 5), -9);
        x.hammer(called);
        Check.due("passed", x.seller(called, 0), -9);
        int sold = Check.soldLot(x, 1, 10);
        Check.due("sold", x.seller(sold, 0), -9);
        x.reoffer(called, 10);
        Check.due("new again", x.seller(called, 0), 2);
    }

    private static void sellerAgain() {
        Check.sentence("Promise 4", "8: he is one");
        AuctionRoom x = Check.room();
        x.lot(1, 10, 0);
        x.lot(1, 10, 0);
        Check.due("seller", x.seller(0, 3), 1);
        Check.due("again", x.seller(0, 3), -8);
        Check.due("of another lot", x.seller(1, 3), 1);
        Check.due("another one", x.seller(0, 0), 2);
        Check.due("the first again", x.seller(0, 3), -8);
        Check.due("the last again", x.seller(0, 0), -8);
    }

    private static void sellers4() {
        Check.sentence("Promise 4", "12: it has 4.");
        AuctionRoom x = Check.room();
        x.lot(1, 10, 0);
        for (int b = 0; b < 4; b++) Check.due("seller", x.seller(0, b), b + 1);
        Check.due("a fifth", x.seller(0, 4), -12);
        for (int b = 0; b < 4; b++) Check.due("8 comes ahead", x.seller(0, b), -8);
        Check.due("another lot has its own", x.seller((int) x.lot(1, 10, 0), 4), 1);
    }

    private static void cutReasons() {
        Check.sentence("Promise 5", "Reasons: 1; l is looked up; 9: it is not new.");
        AuctionRoom x = Check.room();
        Check.due("1 ahead of 3", x.cut(400, 10001), -1);
        Check.due("1 ahead of 2", x.cut(0, -1), -1);
        int l = Check.calledLot(x, 1, 10, 0);
        Check.due("1 ahead of 9", x.cut(l, 10001), -1);
        Check.due("called", x.cut(l, 10000), -9);
        x.hammer(l);
        Check.due("passed", x.cut(l, 0), -9);
        Check.due("sold", x.cut(Check.soldLot(x, 1, 10), 0), -9);
        x.reoffer(l, 10);
        Check.due("new again", x.cut(l, 10000), 0);
    }

    private static void cutAnswers() {
        Check.sentence("Promise 5", "The CUT of a lot. Answers what it was.");
        AuctionRoom x = Check.room();
        int l = Check.newLot(x, 1, 10, 0);
        int other = Check.newLot(x, 1, 10, 0);
        Check.due("at first", x.cut(l, 10000), 0);
        Check.due("was", x.cut(l, 9999), 10000);
        Check.due("was", x.cut(l, 9999), 9999);
        Check.due("refused", x.cut(l, 10001), -1);
        Check.due("a refused one is none", x.cut(l, 1), 9999);
        Check.due("another lot has its own", x.cut(other, 1), 0);
        x.call(l);
        x.hammer(l);
        x.reoffer(l, 10);
        Check.due("it stays", x.cut(l, 0), 1);
    }

    private static void stepNumbers() {
        Check.sentence("Promise 6", "1 (from not 0 .. 10^12, by no sum)");
        AuctionRoom x = new AuctionRoom();
        for (long no : new long[] {-1, Check.SUM + 1, Long.MIN_VALUE, Long.MAX_VALUE}) {
            Check.due("from " + no, x.step(no, 1), -1);
            Check.due("by " + no, x.step(0, no), -1);
        }
        Check.due("by 0", x.step(0, 0), -1);
        Check.due("from 0 by 1", x.step(0, 1), 1);
        Check.due("1 ahead of 10", x.step(0, 0), -1);
        Check.due("from 10^12 by 10^12", x.step(Check.SUM, Check.SUM), 2);
    }

    private static void stepRising() {
        Check.sentence("Promise 6", "10: from is not above that of the last row.");
        AuctionRoom x = new AuctionRoom();
        Check.due("into an empty table", x.step(100, 5), 1);
        Check.due("below", x.step(99, 5), -10);
        Check.due("equal", x.step(100, 5), -10);
        Check.due("above", x.step(101, 5), 2);
        Check.due("above the first, not the last", x.step(101, 5), -10);
        x.batch();
        Check.due("row", x.step(500, 5), 3);
        x.undo();
        Check.due("above what is left", x.step(102, 5), 3);
        Check.due("the other table is empty", x.premium(0, 5), 1);
    }

    private static void steps20() {
        Check.sentence("Promise 6", "12: it has 20");
        AuctionRoom x = new AuctionRoom();
        for (int row = 0; row < 19; row++) x.step(row, 1);
        Check.due("10 in a table of 19", x.step(18, 1), -10);
        Check.due("the 20th", x.step(19, 1), 20);
        Check.due("one more", x.step(20, 1), -12);
        Check.due("12 ahead of 10", x.step(0, 1), -12);
        Check.due("1 ahead of 12", x.step(-1, 1), -1);
        Check.due("1 ahead of 12", x.step(20, 0), -1);
        Check.due("the other table has its own", x.premium(0, 1), 1);
    }

    private static void premiumNumbers() {
        Check.sentence("Promise 7", "Reasons: 1 (from, rate); 12; 10.");
        AuctionRoom x = new AuctionRoom();
        for (long no : new long[] {-1, Check.SUM + 1, Long.MIN_VALUE, Long.MAX_VALUE}) {
            Check.due("from " + no, x.premium(no, 1), -1);
        }
        Check.due("rate -1", x.premium(0, -1), -1);
        Check.due("rate 10001", x.premium(0, 10001), -1);
        Check.due("from 0 at 0", x.premium(0, 0), 1);
        Check.due("1 ahead of 10", x.premium(0, 10001), -1);
        Check.due("from 10^12 at 10000", x.premium(Check.SUM, 10000), 2);
    }

    private static void premiumRising() {
        Check.sentence("Promise 7", "A row of BRACKETS, likewise.");
        AuctionRoom x = new AuctionRoom();
        Check.due("into an empty table", x.premium(100, 5), 1);
        Check.due("below", x.premium(99, 5), -10);
        Check.due("equal", x.premium(100, 5), -10);
        Check.due("above", x.premium(101, 5), 2);
        x.batch();
        Check.due("row", x.premium(500, 5), 3);
        x.undo();
        Check.due("above what is left", x.premium(102, 5), 3);
        Check.due("the other table is empty", x.step(0, 5), 1);
    }

    private static void premiums20() {
        Check.sentence("Promise 7", "Reasons: 1 (from, rate); 12; 10.");
        AuctionRoom x = new AuctionRoom();
        for (int row = 0; row < 19; row++) x.premium(row, 1);
        Check.due("10 in a table of 19", x.premium(18, 1), -10);
        Check.due("the 20th", x.premium(19, 1), 20);
        Check.due("one more", x.premium(20, 1), -12);
        Check.due("12 ahead of 10", x.premium(0, 1), -12);
        Check.due("1 ahead of 12", x.premium(-1, 1), -1);
        Check.due("1 ahead of 12", x.premium(20, -1), -1);
        Check.due("the other table has its own", x.step(0, 1), 1);
    }

    private static void taxReasons() {
        Check.sentence("Promise 8", "Reason: 1 (kind, rate).");
        AuctionRoom x = new AuctionRoom();
        for (int no : new int[] {0, 6, -1, Integer.MIN_VALUE, Integer.MAX_VALUE}) {
            Check.due("kind " + no, x.tax(no, 1), -1);
        }
        for (int kind = 1; kind <= 5; kind++) {
            Check.due("rate -1", x.tax(kind, -1), -1);
            Check.due("rate 10001", x.tax(kind, 10001), -1);
            Check.due("rate 10000", x.tax(kind, 10000), 0);
            Check.due("rate 0", x.tax(kind, 0), 10000);
        }
    }

    private static void taxAnswers() {
        Check.sentence("Promise 8", "The TAX of a kind of lots. Answers what it was.");
        AuctionRoom x = Check.room();
        for (int kind = 1; kind <= 5; kind++) Check.due("at first", x.tax(kind, 1000 * kind), 0);
        long taxes = 0;
        int[] pieces = {1, 2, 12, 1, 1};
        for (int kind = 1; kind <= 5; kind++) {
            int l = Check.calledLot(x, kind, 100, 0);
            if (kind == 5) x.take(l, 0);
            else x.bid(l, 0, 100);
            if (kind == 4) x.open(l);
            x.hammer(l);
            taxes += 10L * kind * pieces[kind - 1];
            Check.due("taxes behind kind " + kind, x.account(1), taxes);
        }
        for (int kind = 1; kind <= 5; kind++) Check.due("was", x.tax(kind, 0), 1000 * kind);
    }
}
