/** Promises 22 to 26, and what the document says of acts and of taking back. */
public final class MoneyAndBatchesTest {
    public static void main(String[] args) {
        promise22Pay();
        promise22MostBalance();
        promise23PayOut();
        promise24Batch();
        promise25End();
        promise26Undo();
        promise26UndoGivesAllBack();
        promise26UndoOfReofferAndJoin();
        promise26UndoOfMuch();
        refusedActTakesAllBack();
        Check.end();
    }

    private static void promise22Pay() {
        AuctionRoom x = Check.room();
        Check.due("22 sum comes first", x.pay(-1, 0), -1);
        Check.due("22 sum too much", x.pay(0, Check.SUM + 1), -1);
        Check.due("22 beyond", x.pay(200, 1), -3);
        Check.due("22 none", x.pay(6, 1), -2);
        Check.due("22 pays", x.pay(0, 70), 70);
        Check.due("22 balance", x.balance(0), 70);
        Check.due("22 till", x.account(2), -70);
        Check.due("22 total", x.total(), 0);
    }

    private static void promise22MostBalance() {
        // 10^15 is not reached by 512 calls of pay() alone: sales bring most of it.
        AuctionRoom x = Check.room();
        x.bidder(4, 0);
        for (int i = 0; i < 84; i++) {
            int l = (int) x.lot(3, Check.SUM, 0);
            x.seller(l, 6);
            x.call(l);
            x.bid(l, i % 2, Check.SUM);
            if (i < 83) Check.due("22 sale", x.hammer(l), 12 * Check.SUM);
        }
        Check.due("22 balance", x.balance(6), 996 * Check.SUM);
        for (int i = 0; i < 3; i++) Check.due("22 pay", x.pay(6, Check.SUM), Check.SUM);
        Check.due("22 pay", x.pay(6, Check.SUM - 1), Check.SUM - 1);
        Check.due("22 above 10^15", x.pay(6, 2), -11);
        Check.due("22 just 10^15", x.pay(6, 1), 1);
        Check.due("22 above 10^15", x.pay(6, 1), -11);
        Check.due("22 a sale may go above", x.hammer(83), 12 * Check.SUM);
        Check.due("22 balance", x.balance(6), 1012 * Check.SUM);
        Check.due("22 above 10^15", x.pay(6, 1), -11);
        Check.due("22 total", x.total(), 0);
    }

    private static void promise23PayOut() {
        AuctionRoom x = Check.room();
        Check.due("23 sum comes first", x.payOut(-1, 0), -1);
        Check.due("23 sum too much", x.payOut(0, Check.SUM + 1), -1);
        Check.due("23 beyond", x.payOut(-1, 1), -3);
        Check.due("23 none", x.payOut(6, 1), -2);
        Check.due("23 has nothing", x.payOut(0, 1), -10);
        x.pay(0, 70);
        Check.due("23 less", x.payOut(0, 71), -10);
        Check.due("23 paid", x.payOut(0, 30), 30);
        Check.due("23 balance", x.balance(0), 40);
        Check.due("23 till", x.account(2), -40);
        Check.due("23 all", x.payOut(0, 40), 40);
        Check.due("23 till", x.account(2), 0);
    }

    private static void promise24Batch() {
        AuctionRoom x = Check.room();
        for (int i = 1; i <= 8; i++) Check.due("24 batch", x.batch(), i);
        x.pay(0, 5);
        Check.due("24 a ninth", x.batch(), -12);
        Check.due("24 none is open", x.batches(), 0);
        Check.due("24 taken back", x.balance(0), 0);
        Check.due("24 why", x.why(), 12);
        Check.due("24 anew", x.batch(), 1);
    }

    private static void promise25End() {
        AuctionRoom x = Check.room();
        Check.due("25 none", x.end(), -14);
        x.batch();
        x.pay(0, 1);
        x.batch();
        x.pay(0, 2);
        Check.due("25 inner", x.end(), 1);
        Check.due("25 stays done", x.balance(0), 3);
        x.pay(0, 4);
        Check.due("26 outer takes the inner back, too", x.undo(), 0);
        Check.due("26 balance", x.balance(0), 0);
        x.batch();
        x.pay(0, 8);
        Check.due("25 outermost", x.end(), 0);
        Check.due("25 none", x.end(), -14);
        Check.due("25 stays done", x.balance(0), 8);
        x.batch();
        x.pay(0, 16);
        x.undo();
        Check.due("26 no more than the batch", x.balance(0), 8);
    }

    private static void promise26Undo() {
        AuctionRoom x = Check.room();
        Check.due("26 none", x.undo(), -14);
        x.pay(0, 1);
        x.batch();
        x.pay(0, 2);
        x.batch();
        x.pay(0, 4);
        Check.due("26 inner", x.undo(), 1);
        Check.due("26 balance", x.balance(0), 3);
        x.pay(0, 8);
        x.batch();
        x.batch();
        x.pay(0, 16);
        Check.due("26 innermost", x.undo(), 2);
        Check.due("25 end", x.end(), 1);
        Check.due("26 balance", x.balance(0), 11);
        Check.due("26 outermost", x.undo(), 0);
        Check.due("26 balance", x.balance(0), 1);
        Check.due("26 none", x.undo(), -14);
        Check.due("26 what is done outside stays", x.balance(0), 1);
    }

    private static void promise26UndoGivesAllBack() {
        AuctionRoom x = Check.room();
        x.lot(1, 10, 0);
        x.seller(0, 5);
        x.limit(0, 2, 20);
        x.call(0);
        long before = x.digest();
        int tries = x.tries();
        x.batch();
        Check.due("26 bidder", x.bidder(1, 0), 6);
        Check.due("26 lot", x.lot(4, 10, 0), 1);
        x.step(0, 5);
        x.premium(0, 100);
        x.tax(1, 50);
        x.cut(1, 9);
        x.seller(1, 0);
        Check.due("26 bid", x.bid(0, 0, 15), 2);
        Check.due("26 limit", x.limit(0, 3, 30), 3);
        Check.due("26 hammer", x.hammer(0), 25);
        x.pay(0, 3);
        Check.due("26 undo", x.undo(), 0);
        Check.due("26 digest", x.digest(), before);
        Check.due("26 tries stay", x.tries(), tries + 13);
        Check.due("26 numbers stay", x.numbers(0), 3);
        Check.due("26 why", x.why(), 0);
        Check.trace("26 undo's trace", x);
        Check.due("26 cause", x.cause(0, 0), 1);
        Check.due("26 no second", x.cause(0, 1), 0);
        Check.due("26 tax", x.tax(1, 0), 0);
        Check.due("26 steps", x.ask(0), 11);
        Check.due("26 entries", x.entries(0), 1);
        Check.due("26 bid", x.bid(0, 0, 11), 4);
        Check.due("26 papers", x.sum(0), 12);
        Check.due("26 bidder again", x.bidder(4, 0), 6);
        Check.due("26 of its own kind", x.bidderKind(6), 4);
        Check.due("26 lot again", x.lot(2, 10, 0), 1);
        Check.due("26 of its own kind", x.kindOf(1), 2);
        Check.due("26 without the old CUT", x.cut(1, 1), 0);
        Check.due("26 without the old SELLERS", x.seller(1, 1), 1);
    }

    private static void promise26UndoOfReofferAndJoin() {
        AuctionRoom x = Check.room();
        x.lot(1, 10, 100);
        x.seller(0, 5);
        x.limit(0, 2, 20);
        x.call(0);
        x.bid(0, 0, 30);
        x.hammer(0);
        x.batch();
        x.reoffer(0, 5);
        x.lot(1, 10, 0);
        x.lot(1, 10, 0);
        Check.due("26 join", x.join(1, 0, 2), 1);
        x.limit(0, 3, 7);
        x.call(0);
        x.bid(0, 1, 90);
        Check.due("26 another book", x.entries(0), 2);
        x.undo();
        Check.due("26 state", x.state(0), 3);
        Check.due("26 entries", x.entries(0), 2);
        Check.due("26 the old book", x.sumAt(0, 0), 20);
        Check.due("26 the old book", x.bidderAt(0, 1), 0);
        Check.due("26 the old cause", x.cause(0, 0), 2);
        Check.due("26 the old cause", x.cause(0, 1), 1);
        Check.due("26 no other lots", x.kindOf(1), 0);
        x.reoffer(0, 10);
        x.call(0);
        Check.due("26 it is not joined", x.hammer(0), 0);
    }

    private static void promise26UndoOfMuch() {
        AuctionRoom x = Check.room();
        int l = Check.calledLot(x, 1, 1, 0);
        x.limit(l, 2, 1000);
        long before = x.digest();
        x.batch();
        for (int i = 0; i < 149; i++) x.bid(l, i % 2, 2 + 2 * i);
        x.batch();
        for (int i = 0; i < 200; i++) x.pay(i % 6, 1 + i);
        Check.due("26 entries", x.entries(l), 299);
        Check.due("26 inner", x.undo(), 1);
        Check.due("26 till", x.account(2), 0);
        Check.due("26 entries stay", x.entries(l), 299);
        Check.due("26 outer", x.undo(), 0);
        Check.due("26 digest", x.digest(), before);
        Check.due("26 stands", x.sum(l), 1);
        Check.due("26 cause", x.cause(l, 0), 1);
        Check.due("26 bid", x.bid(l, 0, 2), 151);
        Check.due("26 papers", x.sum(l), 3);
    }

    private static void refusedActTakesAllBack() {
        AuctionRoom x = Check.room();
        x.lot(1, 10, 0);
        x.pay(0, 1);
        long before = x.digest();
        x.batch();
        x.pay(0, 2);
        x.batch();
        x.call(0);
        x.bid(0, 0, 10);
        Check.due("a refused act in a batch", x.hammer(0), -5);
        Check.due("why", x.why(), 5);
        Check.trace("its trace stays", x, 11, 4);
        Check.due("none is open", x.batches(), 0);
        Check.due("all is taken back", x.digest(), before);
        Check.due("numbers stay", x.numbers(0), 1);
        x.batch();
        x.pay(0, 4);
        Check.due("an act that only asks", x.sumAt(0, 0), -6);
        Check.due("takes back, too", x.balance(0), 1);
        x.batch();
        x.pay(0, 4);
        Check.due("a question", x.kindOf(7), 0);
        Check.due("does not", x.balance(0), 5);
        Check.due("nor an act that is done", x.call(0), 0);
        Check.due("a refused undo outside a batch", x.end() + x.undo(), -14);
        Check.due("changes nothing", x.balance(0), 5);
    }
}
