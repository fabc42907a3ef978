/** Promises 22 to 26: each sentence that names a boundary, and the order of reasons. */
final class MoneyEdges {
    private MoneyEdges() {
    }

    static void run() {
        payReasons();
        payTooMuch();
        payBooks();
        payOutReasons();
        payOutTooLittle();
        batches8();
        batchInAFullRoom();
        endOfNone();
        endKeeps();
        undoOfNone();
        undoTakesTheInnermost();
    }

    private static void payReasons() {
        Check.sentence("Promise 22", "Reasons: 1 (no sum); b is looked up");
        AuctionRoom x = Check.room();
        Check.due("1 ahead of 3", x.pay(200, 0), -1);
        Check.due("1 ahead of 2", x.pay(6, Check.SUM + 1), -1);
        Check.due("beyond", x.pay(-1, 1), -3);
        Check.due("none", x.pay(199, 1), -2);
        for (int b = 0; b < 6; b++) Check.due("any kind", x.pay(b, 1), 1);
    }

    private static void payTooMuch() {
        Check.sentence("Promise 22", "11: his balance would be above 10^15.");
        AuctionRoom x = Check.room();
        // No 512 calls of pay() reach it: sales bring most of it.
        for (int i = 0; i < 83; i++) Check.soldLot(x, 3, Check.SUM);
        Check.due("balance", x.balance(5), 996 * Check.SUM);
        for (int i = 0; i < 3; i++) x.pay(5, Check.SUM);
        Check.due("one below 10^15", x.pay(5, Check.SUM - 1), Check.SUM - 1);
        Check.due("one above 10^15", x.pay(5, 2), -11);
        Check.due("far above 10^15", x.pay(5, Check.SUM), -11);
        Check.due("just 10^15", x.pay(5, 1), 1);
        Check.due("balance", x.balance(5), 1_000_000_000_000_000L);
        Check.due("one above 10^15", x.pay(5, 1), -11);
        Check.due("1 ahead of 11", x.pay(5, Check.SUM + 1), -1);
        Check.due("he can be paid", x.payOut(5, 1), 1);
        Check.due("and pay again", x.pay(5, 1), 1);
        Check.due("another has his own balance", x.pay(1, Check.SUM), Check.SUM);
        Check.due("total", x.total(), 0);
    }

    private static void payBooks() {
        Check.sentence("Promise 22",
            "A bidder pays in: his balance goes up, the till down. Answers the sum.");
        AuctionRoom x = Check.room();
        Check.due("the least", x.pay(0, 1), 1);
        Check.due("the most", x.pay(0, Check.SUM), Check.SUM);
        Check.due("balance", x.balance(0), Check.SUM + 1);
        Check.due("till", x.account(2), -Check.SUM - 1);
        int l = Check.calledLot(x, 1, 50, 0);
        x.bid(l, 1, 50);
        x.hammer(l);
        Check.due("out of a debt", x.pay(1, 49), 49);
        Check.due("balance", x.balance(1), -1);
    }

    private static void payOutReasons() {
        Check.sentence("Promise 23", "Reasons: 1; b is looked up");
        AuctionRoom x = Check.room();
        Check.due("1 ahead of 3", x.payOut(200, 0), -1);
        Check.due("1 ahead of 2", x.payOut(6, Check.SUM + 1), -1);
        Check.due("1 ahead of 10", x.payOut(0, 0), -1);
        Check.due("beyond", x.payOut(-1, 1), -3);
        Check.due("none", x.payOut(199, 1), -2);
    }

    private static void payOutTooLittle() {
        Check.sentence("Promise 23", "10: his balance is less.");
        AuctionRoom x = Check.room();
        Check.due("nothing", x.payOut(0, 1), -10);
        x.pay(0, 50);
        Check.due("one less", x.payOut(0, 51), -10);
        Check.due("just so much", x.payOut(0, 50), 50);
        Check.due("nothing is left", x.payOut(0, 1), -10);
        Check.due("till", x.account(2), 0);
        x.pay(0, 50);
        Check.due("one more", x.payOut(0, 49), 49);
        Check.due("balance", x.balance(0), 1);
        Check.due("till", x.account(2), -1);
        Check.soldLot(x, 1, 50);
        Check.due("a debt", x.payOut(0, 1), -10);
        Check.due("balance", x.balance(0), -49);
    }

    private static void batches8() {
        Check.sentence("Promise 24",
            "A batch is opened, in those that are open. Answers how many are. Reason: 12: 8 are.");
        AuctionRoom x = Check.room();
        for (int i = 1; i <= 8; i++) Check.due("batch", x.batch(), i);
        Check.due("8 are open", x.batches(), 8);
        Check.due("end", x.end(), 7);
        Check.due("again the 8th", x.batch(), 8);
        Check.due("undo", x.undo(), 7);
        Check.due("again the 8th", x.batch(), 8);
        Check.due("a ninth", x.batch(), -12);
        Check.due("none is open", x.batches(), 0);
        Check.due("the first", x.batch(), 1);
    }

    private static void batchInAFullRoom() {
        Check.sentence("Promise 24", "Reason: 12: 8 are.");
        AuctionRoom x = Check.room();
        for (int i = 0; i < 8; i++) {
            x.batch();
            x.pay(i % 6, 10 + i);
        }
        Check.due("till", x.account(2), -108);
        Check.due("a ninth", x.batch(), -12);
        Check.due("all is taken back", x.account(2), 0);
        Check.due("none to end", x.end(), -14);
    }

    private static void endOfNone() {
        Check.sentence("Promise 25", "Answers how many are open. Reason: 14.");
        AuctionRoom x = Check.room();
        Check.due("none", x.end(), -14);
        x.batch();
        x.batch();
        Check.due("two", x.end(), 1);
        Check.due("one", x.end(), 0);
        Check.due("none", x.end(), -14);
    }

    private static void endKeeps() {
        Check.sentence("Promise 25", "what was done in it stays done, as far as those around it do.");
        AuctionRoom x = Check.room();
        x.pay(0, 1);
        x.batch();
        x.pay(0, 2);
        x.batch();
        x.pay(0, 4);
        Check.due("inner", x.end(), 1);
        Check.due("it stays", x.balance(0), 7);
        Check.due("outer", x.undo(), 0);
        Check.due("both are taken back", x.balance(0), 1);
        x.batch();
        x.pay(0, 8);
        x.batch();
        x.pay(0, 16);
        x.end();
        x.end();
        Check.due("both stay", x.balance(0), 25);
        Check.due("nothing is left to take back", x.undo(), -14);
        Check.due("both stay", x.balance(0), 25);
        x.batch();
        Check.due("refused", x.pay(0, 0), -1);
        Check.due("what was closed stays", x.balance(0), 25);
        x.batch();
        x.pay(0, 32);
        Check.due("another batch", x.undo(), 0);
        Check.due("what was closed stays", x.balance(0), 25);
    }

    private static void undoOfNone() {
        Check.sentence("Promise 26", "Answers how many are open. Reason: 14.");
        AuctionRoom x = Check.room();
        Check.due("none", x.undo(), -14);
        x.batch();
        x.batch();
        Check.due("two", x.undo(), 1);
        Check.due("one", x.undo(), 0);
        Check.due("none", x.undo(), -14);
    }

    private static void undoTakesTheInnermost() {
        Check.sentence("Promise 26",
            "All that was done since the innermost batch was opened is taken back, and it is closed.");
        AuctionRoom x = Check.room();
        for (int i = 0; i < 8; i++) {
            x.batch();
            x.pay(0, 1L << i);
        }
        for (int i = 7; i >= 0; i--) {
            Check.due("undo", x.undo(), i);
            Check.due("balance", x.balance(0), (1L << i) - 1);
        }
        x.batch();
        x.pay(0, 5);
        x.batch();
        Check.due("an empty one", x.undo(), 1);
        Check.due("balance", x.balance(0), 5);
        Check.due("undo", x.undo(), 0);
        Check.due("balance", x.balance(0), 0);
    }
}
