/** Promises 27 to 42: each sentence that names a boundary. */
final class QuestionsEdges {
    /** Numbers of no lot and no bidder in a room that has five of each. */
    private static final int[] NONE = {-1, 5, 199, 200, 399, 400, Integer.MIN_VALUE, Integer.MAX_VALUE};

    private QuestionsEdges() {
    }

    static void run() {
        kindOf();
        bidderKind();
        state();
        stands();
        sum();
        entries();
        causeOfNone();
        causeOfANewLot();
        causeOfPapersAskedLast();
        balance();
        account();
        total();
        numbers();
        tries();
        why();
        batches();
        digestOfAnEmptyRoom();
        digestOrder();
        digestWraps();
        questionsAreNoActs();
    }

    private static AuctionRoom fiveOfEach() {
        AuctionRoom x = new AuctionRoom();
        for (int i = 0; i < 5; i++) {
            x.bidder(1 + i % 4, 9);
            x.lot(1 + i, 10, 0);
        }
        return x;
    }

    private static void kindOf() {
        Check.sentence("Promise 27", "The KIND of a lot; 0 if there is none.");
        AuctionRoom x = fiveOfEach();
        for (int l = 0; l < 5; l++) Check.due("kind", x.kindOf(l), l + 1);
        for (int no : NONE) Check.due("of " + no, x.kindOf(no), 0);
        x.batch();
        x.lot(1, 1, 0);
        Check.due("in a batch", x.kindOf(5), 1);
        x.undo();
        Check.due("taken back", x.kindOf(5), 0);
    }

    private static void bidderKind() {
        Check.sentence("Promise 28", "The KIND of a bidder; 0 if there is none.");
        AuctionRoom x = fiveOfEach();
        for (int b = 0; b < 5; b++) Check.due("kind", x.bidderKind(b), 1 + b % 4);
        for (int no : NONE) Check.due("of " + no, x.bidderKind(no), 0);
        x.batch();
        x.bidder(4, 0);
        Check.due("in a batch", x.bidderKind(5), 4);
        x.undo();
        Check.due("taken back", x.bidderKind(5), 0);
    }

    private static void state() {
        Check.sentence("Promise 29", "The STATE of a lot; -1 if there is none.");
        AuctionRoom x = fiveOfEach();
        for (int no : NONE) Check.due("of " + no, x.state(no), -1);
        Check.due("new", x.state(0), 0);
        x.seller(0, 1);
        x.call(0);
        Check.due("called", x.state(0), 1);
        x.bid(0, 0, 10);
        x.hammer(0);
        Check.due("sold", x.state(0), 2);
        x.call(1);
        x.hammer(1);
        Check.due("passed", x.state(1), 3);
        x.reoffer(1, 5);
        Check.due("new again", x.state(1), 0);
    }

    private static void stands() {
        Check.sentence("Promise 30", "The bidder that stands on a lot; -1 if none does.");
        AuctionRoom x = fiveOfEach();
        for (int no : NONE) Check.due("of " + no, x.stands(no), -1);
        for (int l = 0; l < 5; l++) Check.due("new", x.stands(l), -1);
        for (int l = 0; l < 5; l++) x.call(l);
        for (int l = 0; l < 5; l++) Check.due("called", x.stands(l), -1);
        x.bid(0, 0, 10);
        Check.due("bidder 0", x.stands(0), 0);
        x.bid(0, 4, 11);
        Check.due("bidder 4", x.stands(0), 4);
        x.bid(3, 0, 10);
        Check.due("sealed", x.stands(3), -1);
        x.hammer(3);
        Check.due("sealed for ever", x.stands(3), -1);
    }

    private static void sum() {
        Check.sentence("Promise 31", "The sum that stands; 0 if none does.");
        AuctionRoom x = fiveOfEach();
        for (int no : NONE) Check.due("of " + no, x.sum(no), 0);
        for (int l = 0; l < 5; l++) Check.due("new", x.sum(l), 0);
        for (int l = 0; l < 5; l++) x.call(l);
        for (int l = 0; l < 5; l++) Check.due("called", x.sum(l), 0);
        x.bid(2, 0, Check.SUM);
        Check.due("for one piece", x.sum(2), Check.SUM);
        x.bid(3, 0, 10);
        Check.due("sealed", x.sum(3), 0);
        x.take(4, 0);
        Check.due("taken", x.sum(4), 10);
    }

    private static void entries() {
        Check.sentence("Promise 32", "How many entries a lot's book has; -1 if it has none, or there is no lot.");
        AuctionRoom x = fiveOfEach();
        for (int no : NONE) Check.due("of " + no, x.entries(no), -1);
        for (int l = 0; l < 5; l++) Check.due("new", x.entries(l), -1);
        for (int l = 0; l < 5; l++) x.call(l);
        for (int l = 0; l < 5; l++) Check.due("called", x.entries(l), 0);
        x.bid(0, 0, 10);
        Check.due("one", x.entries(0), 1);
        x.bid(3, 0, 10);
        Check.due("of a SEALED one", x.entries(3), 1);
        x.hammer(3);
        Check.due("passed", x.entries(3), 1);
        x.reoffer(3, 10);
        Check.due("new again", x.entries(3), -1);
    }

    private static void causeOfNone() {
        Check.sentence("Promise 33", "0 if there was none, for another what");
        AuctionRoom x = fiveOfEach();
        for (int no : NONE) {
            Check.due("of " + no, x.cause(no, 0), 0);
            Check.due("of " + no, x.cause(no, 1), 0);
        }
        x.call(0);
        Check.due("no FIRST", x.cause(0, 0), 0);
        Check.due("no SECOND", x.cause(0, 1), 0);
        x.bid(0, 0, 10);
        Check.due("FIRST", x.cause(0, 0), 1);
        Check.due("no SECOND", x.cause(0, 1), 0);
        x.limit(0, 1, 10);
        Check.due("SECOND", x.cause(0, 1), 2);
        for (int what : new int[] {-1, 2, Integer.MIN_VALUE, Integer.MAX_VALUE}) {
            Check.due("another what", x.cause(0, what), 0);
        }
    }

    private static void causeOfANewLot() {
        Check.sentence("Promise 33", "and for a lot that was not called since it is new.");
        AuctionRoom x = fiveOfEach();
        x.limit(0, 1, 15);
        x.limit(0, 2, 9);
        Check.due("new, FIRST", x.cause(0, 0), 0);
        x.call(0);
        x.bid(0, 0, 16);
        x.batch();
        x.seller(1, 0);
        Check.due("called, FIRST", x.cause(0, 0), 3);
        Check.due("called, SECOND", x.cause(0, 1), 1);
        x.undo();
        x.lot(1, 10, 100);
        x.limit(5, 1, 15);
        x.call(5);
        x.hammer(5);
        Check.due("passed, FIRST", x.cause(5, 0), 4);
        x.reoffer(5, 10);
        Check.due("new again, FIRST", x.cause(5, 0), 0);
        Check.due("new again, SECOND", x.cause(5, 1), 0);
        x.limit(5, 1, 15);
        Check.due("written on, FIRST", x.cause(5, 0), 0);
        x.call(5);
        Check.due("called again, FIRST", x.cause(5, 0), 5);
    }

    private static void causeOfPapersAskedLast() {
        Check.sentence("Promise 33",
            "The NUMBER of FIRST (what = 0) and SECOND (1) when papers were asked about a lot last");
        AuctionRoom x = fiveOfEach();
        x.seller(0, 1);
        x.call(0);
        x.limit(0, 1, 30);
        Check.due("a limit", x.cause(0, 0), 1);
        x.bid(0, 0, 20);
        Check.due("FIRST stays", x.cause(0, 0), 1);
        Check.due("the bid is SECOND", x.cause(0, 1), 2);
        x.bid(0, 0, 31);
        Check.due("a bid is FIRST", x.cause(0, 0), 3);
        Check.due("the limit is SECOND", x.cause(0, 1), 1);
        Check.due("a refused bid", x.bid(0, 4, 1), -10);
        Check.due("nobody was asked", x.cause(0, 0), 3);
        x.hammer(0);
        Check.due("sold", x.cause(0, 0), 3);
        Check.due("sold", x.cause(0, 1), 1);
    }

    private static void balance() {
        Check.sentence("Promise 34", "A bidder's BALANCE; 0 if there is none.");
        AuctionRoom x = fiveOfEach();
        for (int no : NONE) Check.due("of " + no, x.balance(no), 0);
        for (int b = 0; b < 5; b++) x.pay(b, 100 + b);
        for (int b = 0; b < 5; b++) Check.due("of " + b, x.balance(b), 100 + b);
        x.batch();
        x.bidder(1, 0);
        x.pay(5, 7);
        Check.due("in a batch", x.balance(5), 7);
        x.undo();
        Check.due("taken back", x.balance(5), 0);
        x.bidder(1, 0);
        Check.due("another one of that number", x.balance(5), 0);
    }

    private static void account() {
        Check.sentence("Promise 35", "What the house has (0), taxes (1), the till (2); 0 for another.");
        AuctionRoom x = Check.room();
        x.premium(0, 1000);
        x.tax(1, 2000);
        Check.soldLot(x, 1, 100);
        x.pay(0, 3);
        Check.due("house", x.account(0), 10);
        Check.due("taxes", x.account(1), 22);
        Check.due("till", x.account(2), -3);
        for (int no : new int[] {-1, 3, 4, Integer.MIN_VALUE, Integer.MAX_VALUE}) {
            Check.due("of " + no, x.account(no), 0);
        }
    }

    private static void total() {
        Check.sentence("Promise 36", "All balances and accounts together.");
        AuctionRoom x = new AuctionRoom();
        Check.due("nobody", x.total(), 0);
        x = Check.room();
        x.premium(0, 3333);
        x.tax(1, 1777);
        for (int i = 1; i < 20; i++) {
            int l = (int) x.lot(1, i, 0);
            for (int b = 0; b <= i % 4; b++) x.seller(l, b);
            x.cut(l, 777);
            x.call(l);
            x.bid(l, 1, 5 + i);
            x.hammer(l);
            x.pay(i % 6, i);
            Check.due("total", x.total(), 0);
        }
        Check.due("much was booked", x.account(0) > 0 && x.account(1) > 0 && x.account(2) < 0);
    }

    private static void numbers() {
        Check.sentence("Promise 37", "those of what was taken back, too (what = 0 or 1); 0 for another what.");
        AuctionRoom x = Check.room();
        int l = Check.calledLot(x, 1, 10, 0);
        x.bid(l, 0, 10);
        x.batch();
        x.limit(l, 2, 10);
        x.undo();
        Check.due("0", x.numbers(0), 2);
        Check.due("1", x.numbers(1), 2);
        for (int what : new int[] {-1, 2, Integer.MIN_VALUE, Integer.MAX_VALUE}) {
            Check.due("another what", x.numbers(what), 0);
        }
    }

    private static void tries() {
        Check.sentence("Promise 38", "How many acts there were, refused ones too.");
        AuctionRoom x = new AuctionRoom();
        Check.due("none", x.tries(), 0);
        x.bidder(1, 0);
        Check.due("done", x.tries(), 1);
        x.bidder(0, 0);
        Check.due("refused", x.tries(), 2);
        x.batch();
        x.pay(0, 1);
        Check.due("in a batch", x.tries(), 4);
        x.undo();
        Check.due("taken back, and the undo", x.tries(), 5);
        x.batch();
        x.pay(0, 1);
        x.pay(0, 0);
        Check.due("taken back by a refused one", x.tries(), 8);
    }

    private static void why() {
        Check.sentence("Promise 39", "WHY of the latest act; 0 at first.");
        AuctionRoom x = new AuctionRoom();
        Check.due("at first", x.why(), 0);
        x.end();
        Check.due("refused", x.why(), 14);
        x.batch();
        Check.due("done", x.why(), 0);
        x.call(-1);
        Check.due("refused in a batch", x.why(), 3);
        x.batch();
        x.undo();
        Check.due("undo gives no old one", x.why(), 0);
    }

    private static void batches() {
        Check.sentence("Promise 41", "How many batches are open.");
        AuctionRoom x = new AuctionRoom();
        Check.due("none", x.batches(), 0);
        for (int i = 1; i <= 8; i++) {
            x.batch();
            Check.due("opened", x.batches(), i);
        }
        x.end();
        Check.due("ended", x.batches(), 7);
        x.undo();
        Check.due("undone", x.batches(), 6);
        x.call(0);
        Check.due("refused", x.batches(), 0);
    }

    private static long over(long... numbers) {
        long d = 7;
        for (long number : numbers) d = d * 31 + number;
        return d;
    }

    private static void digestOfAnEmptyRoom() {
        Check.sentence("Promise 42", "d, of 7, goes over numbers x: d * 31 + x");
        AuctionRoom x = new AuctionRoom();
        Check.due("no bidders, no lots, accounts, no rows", x.digest(), over(0, 0, 0, 0, 0, 0, 0));
        x.step(0, 1);
        Check.due("a row of STEPS", x.digest(), over(0, 0, 0, 0, 0, 1, 0));
        x.premium(0, 1);
        x.premium(1, 1);
        Check.due("rows of BRACKETS", x.digest(), over(0, 0, 0, 0, 0, 1, 2));
    }

    private static void digestOrder() {
        Check.sentence("Promise 42", "how many bidders; of each KIND and BALANCE; how many lots; of each KIND, STATE,"
            + " stands(), sum(), entries(), how many sellers and limits; the three accounts");
        AuctionRoom x = new AuctionRoom();
        x.bidder(1, 0);
        x.bidder(2, 0);
        x.lot(2, 10, 0);
        Check.due("a new lot", x.digest(), over(2, 1, 0, 2, 0, 1, 2, 0, -1, 0, -1, 0, 0, 0, 0, 0, 0, 0));
        x.seller(0, 1);
        x.limit(0, 1, 15);
        x.call(0);
        x.bid(0, 0, 20);
        Check.due("a called lot", x.digest(), over(2, 1, 0, 2, 0, 1, 2, 1, 0, 20, 2, 1, 1, 0, 0, 0, 0, 0));
        x.premium(0, 1000);
        x.tax(2, 500);
        x.hammer(0);
        x.pay(1, 9);
        // h is 40, p 4, t 2.2.
        Check.due("a sold lot", x.digest(), over(2, 1, -46, 2, 49, 1, 2, 2, 0, 20, 2, 1, 1, 4, 2, -9, 0, 1));
    }

    private static void digestWraps() {
        Check.sentence("Promise 42", "wrapping, one behind the other");
        AuctionRoom x = new AuctionRoom();
        int bidders = 60;
        long[] numbers = new long[1 + 2 * bidders + 6];
        numbers[0] = bidders;
        for (int b = 0; b < bidders; b++) {
            x.bidder(1, 0);
            x.pay(b, Check.SUM - b);
            numbers[1 + 2 * b] = 1;
            numbers[2 + 2 * b] = Check.SUM - b;
        }
        numbers[numbers.length - 3] = x.account(2);
        Check.due("over " + numbers.length + " numbers", x.digest(), over(numbers));
    }

    private static void questionsAreNoActs() {
        Check.sentence("Terms", "ACTS are the calls bidder, lot, .. to undo, below; those behind them are questions.");
        AuctionRoom x = fiveOfEach();
        x.batch();
        x.pay(0, 5);
        x.call(0);
        x.bid(0, 0, 10);
        for (int no : NONE) {
            x.kindOf(no);
            x.bidderKind(no);
            x.state(no);
            x.stands(no);
            x.sum(no);
            x.entries(no);
            x.cause(no, no);
            x.balance(no);
            x.account(no);
            x.numbers(no);
            x.trace(no);
        }
        x.total();
        x.digest();
        Check.due("tries", x.tries(), 14);
        Check.due("why", x.why(), 0);
        Check.due("the trace is left", x.trace(1), 7);
        Check.due("the batch is open", x.batches(), 1);
        Check.due("nothing is taken back", x.balance(0), 5);
    }
}
