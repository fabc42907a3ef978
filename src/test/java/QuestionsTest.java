/** Promises 27 to 42. */
public final class QuestionsTest {
    private static final int[] ODD = {Integer.MIN_VALUE, -1, 5, 6, 199, 200, 399, 400, Integer.MAX_VALUE};

    public static void main(String[] args) {
        oddNumbersAreNoFault();
        promises27And28Kinds();
        promise29State();
        promises30To32Stands();
        promise33Cause();
        promises34To36Money();
        promise37Numbers();
        promises38And39TriesAndWhy();
        promise38EachActIsATry();
        promise40Trace();
        promise41Batches();
        promise42Digest();
        Check.end();
    }

    private static void oddNumbersAreNoFault() {
        AuctionRoom x = new AuctionRoom();
        for (int b = 0; b < 5; b++) x.bidder(1, 0);
        for (int l = 0; l < 5; l++) x.lot(1, 1, 0);
        for (int odd : ODD) {
            Check.due("27 kindOf", x.kindOf(odd), 0);
            Check.due("28 bidderKind", x.bidderKind(odd), 0);
            Check.due("29 state", x.state(odd), -1);
            Check.due("30 stands", x.stands(odd), -1);
            Check.due("31 sum", x.sum(odd), 0);
            Check.due("32 entries", x.entries(odd), -1);
            Check.due("33 cause", x.cause(odd, 0), 0);
            Check.due("33 cause", x.cause(0, odd), 0);
            Check.due("34 balance", x.balance(odd), 0);
            Check.due("35 account", x.account(odd), 0);
            Check.due("37 numbers", x.numbers(odd), 0);
            Check.due("40 trace", x.trace(odd), 0);
        }
        Check.due("38 questions are no acts", x.tries(), 10);
        Check.due("39 questions have no WHY", x.why(), 0);
    }

    private static void promises27And28Kinds() {
        AuctionRoom x = new AuctionRoom();
        for (int kind = 1; kind <= 5; kind++) x.lot(kind, 9, 9);
        for (int l = 0; l < 5; l++) Check.due("27 kindOf", x.kindOf(l), l + 1);
        for (int kind = 1; kind <= 4; kind++) x.bidder(kind, 9);
        for (int b = 0; b < 4; b++) Check.due("28 bidderKind", x.bidderKind(b), b + 1);
        x.batch();
        x.lot(1, 1, 0);
        x.bidder(1, 0);
        x.undo();
        Check.due("27 taken back", x.kindOf(5), 0);
        Check.due("28 taken back", x.bidderKind(4), 0);
        Check.due("29 taken back", x.state(5), -1);
    }

    private static void promise29State() {
        AuctionRoom x = Check.room();
        x.lot(1, 1, 0);
        x.seller(0, 5);
        Check.due("29 new", x.state(0), 0);
        x.call(0);
        Check.due("29 called", x.state(0), 1);
        x.batch();
        x.hammer(0);
        Check.due("29 passed", x.state(0), 3);
        x.undo();
        x.bid(0, 0, 1);
        x.hammer(0);
        Check.due("29 sold", x.state(0), 2);
    }

    private static void promises30To32Stands() {
        AuctionRoom x = Check.room();
        x.lot(1, 10, 0);
        x.seller(0, 5);
        Check.due("30 new", x.stands(0), -1);
        Check.due("31 new", x.sum(0), 0);
        Check.due("32 new", x.entries(0), -1);
        x.call(0);
        Check.due("30 called", x.stands(0), -1);
        Check.due("31 called", x.sum(0), 0);
        Check.due("32 called", x.entries(0), 0);
        x.bid(0, 1, 10);
        x.bid(0, 0, 13);
        Check.due("30 bid", x.stands(0), 0);
        Check.due("31 bid", x.sum(0), 13);
        Check.due("32 bid", x.entries(0), 2);
        x.hammer(0);
        Check.due("30 sold", x.stands(0), 0);
        Check.due("31 sold", x.sum(0), 13);
        Check.due("32 sold", x.entries(0), 2);
        int s = Check.calledLot(x, 4, 10, 0);
        x.bid(s, 1, 10);
        x.hammer(s);
        Check.due("30 sealed that passed unopened", x.stands(s), -1);
        Check.due("31 sealed that passed unopened", x.sum(s), 0);
        Check.due("32 sealed that passed unopened", x.entries(s), 1);
    }

    private static void promise33Cause() {
        AuctionRoom x = Check.room();
        int l = Check.calledLot(x, 1, 10, 0);
        Check.due("33 no rivals", x.cause(l, 0) + x.cause(l, 1), 0);
        x.bid(l, 0, 10);
        Check.due("33 a bid is first", x.cause(l, 0), 1);
        Check.due("33 alone", x.cause(l, 1), 0);
        x.limit(l, 2, 10);
        Check.due("33 first", x.cause(l, 0), 1);
        Check.due("33 second", x.cause(l, 1), 2);
        x.limit(l, 3, 12);
        Check.due("33 first", x.cause(l, 0), 3);
        Check.due("33 second", x.cause(l, 1), 1);
        Check.due("33 no third", x.cause(l, 2), 0);
        Check.due("33 none ahead", x.cause(l, -1), 0);
        x.hammer(l);
        Check.due("33 it stays when it has ended", x.cause(l, 0), 3);
        int f = Check.calledLot(x, 5, 10, 0);
        x.take(f, 0);
        Check.due("33 falling", x.cause(f, 0), 0);
    }

    private static void promises34To36Money() {
        AuctionRoom x = Check.room();
        x.premium(0, 1000);
        x.tax(1, 1000);
        int l = Check.calledLot(x, 1, 1000, 0);
        x.bid(l, 0, 1000);
        x.hammer(l);
        x.pay(1, 7);
        Check.due("34 buyer", x.balance(0), -1210);
        Check.due("34 payer", x.balance(1), 7);
        Check.due("34 seller", x.balance(5), 1000);
        Check.due("35 house", x.account(0), 100);
        Check.due("35 taxes", x.account(1), 110);
        Check.due("35 till", x.account(2), -7);
        Check.due("36 total", x.total(), 0);
    }

    private static void promise37Numbers() {
        AuctionRoom x = Check.room();
        int l = Check.calledLot(x, 1, 10, 0);
        x.batch();
        x.bid(l, 0, 10);
        x.limit(l, 2, 20);
        x.undo();
        Check.due("37 those taken back, too", x.numbers(0), 2);
        Check.due("37 as 1", x.numbers(1), 2);
        Check.due("37 another", x.numbers(2), 0);
        Check.due("37 refused ones take none", x.bid(l, 0, 9), -10);
        Check.due("37 refused limits neither", x.limit(l, 0, 9), -4);
        Check.due("37 none twice", x.bid(l, 0, 10), 3);
        Check.due("37 numbers", x.numbers(0), 3);
    }

    private static void promises38And39TriesAndWhy() {
        AuctionRoom x = new AuctionRoom();
        x.bidder(1, 0);
        x.lot(1, 10, 0);
        Check.due("38 done ones", x.tries(), 2);
        Check.due("39 done", x.why(), 0);
        x.call(5);
        Check.due("38 refused ones", x.tries(), 3);
        Check.due("39 refused", x.why(), 2);
        x.digest();
        Check.due("39 stays behind a question", x.why(), 2);
        x.ask(0);
        Check.due("39 latest", x.why(), 6);
        x.bidderAt(400, 0);
        x.sumAt(0, 0);
        x.batch();
        x.undo();
        x.end();
        Check.due("38 all acts", x.tries(), 9);
        Check.due("39 latest", x.why(), 14);
        x.pay(0, 1);
        Check.due("39 done again", x.why(), 0);
    }

    private static void promise38EachActIsATry() {
        AuctionRoom x = new AuctionRoom();
        long[] answers = {
            x.bidder(0, 0), x.lot(0, 0, 0), x.seller(0, 0), x.cut(0, 0), x.step(0, 0), x.premium(0, -1),
            x.tax(0, 0), x.call(0), x.bid(0, 0, 1), x.limit(0, 0, 1), x.ask(0), x.open(0), x.tick(0, 1),
            x.take(0, 0), x.bidderAt(0, 0), x.sumAt(0, 0), x.hammer(0), x.join(0, 1, 2), x.settle(0),
            x.reoffer(0, 1), x.pay(0, 1), x.payOut(0, 1), x.end(), x.undo(), x.batch()};
        for (int i = 0; i < answers.length - 1; i++) Check.due("38 refused act " + i, answers[i] < 0 ? 1 : 0, 1);
        Check.due("38 tries", x.tries(), answers.length);
        Check.due("39 why", x.why(), 0);
    }

    private static void promise40Trace() {
        AuctionRoom x = new AuctionRoom();
        x.bidder(3, Check.SUM);
        for (int l = 0; l < 102; l++) {
            x.lot(3, 10, 0);
            x.limit(l, 0, 10);
        }
        // 10, 9, then 6 and 5 of the lot itself and of 101 others: 206 bodies ran.
        Check.due("40 first", x.trace(0), 10);
        Check.due("40 second", x.trace(1), 9);
        for (int i = 2; i < 200; i++) Check.due("40 body " + i, x.trace(i), i % 2 == 0 ? 6 : 5);
        Check.due("40 no more than 200", x.trace(200), 0);
        x.digest();
        Check.due("40 stays behind a question", x.trace(0), 10);
        x.call(0);
        Check.due("40 of the latest act", x.trace(0), 0);
        Check.due("40 of the latest act", x.trace(199), 0);
    }

    private static void promise41Batches() {
        AuctionRoom x = new AuctionRoom();
        Check.due("41 none", x.batches(), 0);
        x.batch();
        x.batch();
        Check.due("41 two", x.batches(), 2);
        x.end();
        Check.due("41 one", x.batches(), 1);
        x.call(0);
        Check.due("41 refused", x.batches(), 0);
    }

    private static long over(long... numbers) {
        long d = 7;
        for (long number : numbers) d = d * 31 + number;
        return d;
    }

    private static void promise42Digest() {
        AuctionRoom x = new AuctionRoom();
        x.bidder(1, 0);
        x.bidder(3, 500);
        x.bidder(4, 0);
        x.pay(0, 50);
        x.lot(2, 10, 0);
        x.lot(4, 10, 0);
        x.seller(0, 1);
        x.limit(0, 1, 30);
        x.step(0, 1);
        x.step(5, 1);
        x.premium(0, 1000);
        x.tax(2, 2000);
        Check.due("42 new lots", x.digest(),
            over(3, 1, 50, 3, 0, 4, 0, 2, 2, 0, -1, 0, -1, 1, 1, 4, 0, -1, 0, -1, 0, 0, 0, 0, -50, 2, 1));
        x.call(0);
        x.call(1);
        x.bid(1, 0, 15);
        Check.due("42 called lots", x.digest(),
            over(3, 1, 50, 3, 0, 4, 0, 2, 2, 1, 1, 10, 1, 1, 1, 4, 1, -1, 0, 1, 0, 0, 0, 0, -50, 2, 1));
        x.hammer(0);
        x.open(1);
        // h is 20, p 2, t 4.4; he that buys it sells it.
        Check.due("42 a sold lot", x.digest(),
            over(3, 1, 50, 3, -6, 4, 0, 2, 2, 2, 1, 10, 1, 1, 1, 4, 1, 0, 10, 1, 0, 0, 2, 4, -50, 2, 1));
    }
}
