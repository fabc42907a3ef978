/** Promises 1 to 8. */
public final class BiddersLotsTablesTest {
    public static void main(String[] args) {
        promise1NewObject();
        promise2Bidder();
        promise2TwoHundred();
        promise3Lot();
        promise3FourHundred();
        promise4Seller();
        promise5Cut();
        promise6Step();
        promise6StepsAreUsed();
        promise7Premium();
        promise7PremiumIsMadeEvenOnce();
        promise8Tax();
        Check.end();
    }

    private static void promise1NewObject() {
        AuctionRoom x = new AuctionRoom();
        Check.due("1 why", x.why(), 0);
        Check.due("1 tries", x.tries(), 0);
        Check.due("1 batches", x.batches(), 0);
        Check.due("1 numbers", x.numbers(0), 0);
        Check.due("1 trace", x.trace(0), 0);
        Check.due("1 kindOf", x.kindOf(0), 0);
        Check.due("1 bidderKind", x.bidderKind(0), 0);
        for (int what = -1; what <= 3; what++) Check.due("1 account", x.account(what), 0);
        Check.due("1 total", x.total(), 0);
        long d = 7;
        for (int i = 0; i < 7; i++) d *= 31;
        Check.due("1 digest", x.digest(), d);
        for (int kind = 1; kind <= 5; kind++) Check.due("1 tax", x.tax(kind, 0), 0);
        Check.due("1 no bidder", x.pay(0, 1), -2);
        Check.due("1 no lot", x.call(0), -2);
        Check.due("1 empty steps", x.step(0, 1), 1);
        Check.due("1 then there is one row", x.step(0, 1), -10);
        Check.due("1 empty brackets", x.premium(0, 1), 1);
        Check.due("1 then there is one row", x.premium(0, 1), -10);
    }

    private static void promise2Bidder() {
        AuctionRoom x = new AuctionRoom();
        Check.due("2 kind 0", x.bidder(0, 0), -1);
        Check.due("2 kind 5", x.bidder(5, 0), -1);
        Check.due("2 kind least", x.bidder(Integer.MIN_VALUE, 0), -1);
        Check.due("2 agent -1", x.bidder(3, -1), -1);
        Check.due("2 agent too rich", x.bidder(3, Check.SUM + 1), -1);
        Check.due("2 why", x.why(), 1);
        Check.due("2 agent 0", x.bidder(3, 0), 0);
        Check.due("2 agent most", x.bidder(3, Check.SUM), 1);
        Check.due("2 why done", x.why(), 0);
        Check.due("2 room's purse is not looked at", x.bidder(1, -5), 2);
        Check.due("2 paper's neither", x.bidder(2, Long.MAX_VALUE), 3);
        Check.due("2 house's neither", x.bidder(4, Long.MIN_VALUE), 4);
        int[] kinds = {3, 3, 1, 2, 4, 0};
        for (int b = 0; b < kinds.length; b++) Check.due("2 kind", x.bidderKind(b), kinds[b]);
        Check.due("2 balance", x.balance(0), 0);
    }

    private static void promise2TwoHundred() {
        AuctionRoom x = new AuctionRoom();
        for (int b = 0; b < 200; b++) Check.due("2 number", x.bidder(1 + b % 4, 7), b);
        Check.due("2 full", x.bidder(1, 0), -12);
        Check.due("2 wrong comes ahead of full", x.bidder(9, 0), -1);
        Check.due("2 last", x.bidderKind(199), 4);
        Check.due("2 beyond", x.pay(200, 1), -3);
    }

    private static void promise3Lot() {
        AuctionRoom x = new AuctionRoom();
        Check.due("3 kind 0", x.lot(0, 1, 0), -1);
        Check.due("3 kind 6", x.lot(6, 1, 0), -1);
        Check.due("3 start 0", x.lot(1, 0, 0), -1);
        Check.due("3 start too much", x.lot(1, Check.SUM + 1, 0), -1);
        Check.due("3 reserve -1", x.lot(1, 1, -1), -1);
        Check.due("3 reserve too much", x.lot(1, 1, Check.SUM + 1), -1);
        Check.due("3 falling reserve above start", x.lot(5, 10, 11), -1);
        Check.due("3 falling reserve as start", x.lot(5, 10, 10), 0);
        Check.due("3 single reserve above start", x.lot(1, 10, 11), 1);
        Check.due("3 most", x.lot(2, Check.SUM, Check.SUM), 2);
        Check.due("3 dozen", x.lot(3, 1, 0), 3);
        Check.due("3 sealed", x.lot(4, 1, 2), 4);
        int[] kinds = {5, 1, 2, 3, 4, 0};
        for (int l = 0; l < kinds.length; l++) Check.due("3 kind", x.kindOf(l), kinds[l]);
        Check.due("3 state", x.state(0), 0);
        Check.due("3 entries", x.entries(0), -1);
        Check.due("3 stands", x.stands(0), -1);
        Check.due("3 cut at first", x.cut(0, 5), 0);
    }

    private static void promise3FourHundred() {
        AuctionRoom x = new AuctionRoom();
        for (int l = 0; l < 400; l++) Check.due("3 number", x.lot(1 + l % 5, 7, 0), l);
        Check.due("3 full", x.lot(1, 1, 0), -12);
        Check.due("3 wrong comes ahead of full", x.lot(1, 0, 0), -1);
        Check.due("3 last", x.call(399), 0);
        Check.due("3 beyond", x.call(400), -3);
    }

    private static void promise4Seller() {
        AuctionRoom x = Check.room();
        Check.due("4 no lot", x.seller(0, 0), -2);
        Check.due("4 lot beyond", x.seller(-1, 0), -3);
        Check.due("4 lot beyond", x.seller(400, 0), -3);
        Check.due("4 lot", x.lot(1, 1, 0), 0);
        Check.due("4 no bidder", x.seller(0, 6), -2);
        Check.due("4 last number", x.seller(0, 199), -2);
        Check.due("4 bidder beyond", x.seller(0, 200), -3);
        Check.due("4 bidder beyond", x.seller(0, -1), -3);
        Check.due("4 the lot is looked up first", x.seller(7, 200), -2);
        for (int b = 0; b < 4; b++) Check.due("4 seller", x.seller(0, b), b + 1);
        Check.due("4 he is one comes ahead of full", x.seller(0, 2), -8);
        Check.due("4 full", x.seller(0, 4), -12);
        Check.due("4 call", x.call(0), 0);
        Check.due("4 state comes ahead", x.seller(0, 2), -9);
        Check.due("4 bidder comes ahead of state", x.seller(0, 6), -2);
    }

    private static void promise5Cut() {
        AuctionRoom x = Check.room();
        Check.due("5 rate comes first", x.cut(-1, -1), -1);
        Check.due("5 rate", x.cut(0, 10001), -1);
        Check.due("5 no lot", x.cut(0, 0), -2);
        Check.due("5 beyond", x.cut(400, 0), -3);
        x.lot(1, 1000, 0);
        x.seller(0, 5);
        Check.due("5 was", x.cut(0, 10000), 0);
        Check.due("5 was", x.cut(0, 0), 10000);
        Check.due("5 was", x.cut(0, 25), 0);
        x.call(0);
        Check.due("5 called", x.cut(0, 1), -9);
        x.bid(0, 0, 1000);
        Check.due("5 hammer", x.hammer(0), 1000);
        // 1000 * 25 / 10000 is 2.5: the even one is 2.
        Check.due("5 house", x.account(0), 2);
        Check.due("5 seller", x.balance(5), 998);
        Check.due("5 sold", x.cut(0, 1), -9);
    }

    private static void promise6Step() {
        AuctionRoom x = new AuctionRoom();
        Check.due("6 from -1", x.step(-1, 1), -1);
        Check.due("6 from too much", x.step(Check.SUM + 1, 1), -1);
        Check.due("6 by 0", x.step(0, 0), -1);
        Check.due("6 by too much", x.step(0, Check.SUM + 1), -1);
        for (int i = 0; i < 19; i++) Check.due("6 row", x.step(i, Check.SUM), i + 1);
        Check.due("6 same from", x.step(18, 1), -10);
        Check.due("6 lesser from", x.step(0, 1), -10);
        Check.due("6 last row", x.step(Check.SUM, 1), 20);
        Check.due("6 full comes ahead of from", x.step(0, 1), -12);
        Check.due("6 wrong comes ahead of full", x.step(0, 0), -1);
    }

    private static void promise6StepsAreUsed() {
        AuctionRoom x = Check.room();
        int l = Check.calledLot(x, 1, 10, 0);
        Check.due("6 bid", x.bid(l, 0, 10), 1);
        Check.due("6 no row: one more", x.ask(l), 11);
        x.step(11, 5);
        Check.due("6 below the first row", x.ask(l), 11);
        Check.due("6 bid", x.bid(l, 1, 11), 2);
        Check.due("6 at the row", x.ask(l), 16);
        x.step(20, 7);
        Check.due("6 below the next row", x.ask(l), 16);
        Check.due("6 too little", x.bid(l, 0, 15), -10);
        Check.due("6 bid", x.bid(l, 0, 25), 3);
        Check.due("6 above the last row", x.ask(l), 32);
        Check.due("6 bid", x.bid(l, 1, Check.SUM), 4);
        Check.due("6 above all sums", x.ask(l), Check.SUM + 7);
    }

    private static void promise7Premium() {
        AuctionRoom x = new AuctionRoom();
        Check.due("7 from -1", x.premium(-1, 1), -1);
        Check.due("7 from too much", x.premium(Check.SUM + 1, 1), -1);
        Check.due("7 rate -1", x.premium(0, -1), -1);
        Check.due("7 rate too much", x.premium(0, 10001), -1);
        for (int i = 0; i < 19; i++) Check.due("7 row", x.premium(i, 0), i + 1);
        Check.due("7 same from", x.premium(18, 1), -10);
        Check.due("7 last row", x.premium(Check.SUM, 10000), 20);
        Check.due("7 full comes ahead of from", x.premium(0, 1), -12);
        Check.due("7 wrong comes ahead of full", x.premium(0, -1), -1);
    }

    /** What a SINGLE sold for a sum gives the house, with no cut. */
    private static long premiumOf(AuctionRoom x, long sum) {
        long before = x.account(0);
        int l = (int) x.lot(1, sum, 0);
        x.seller(l, 5);
        x.call(l);
        x.bid(l, 0, sum);
        Check.due("7 hammer", x.hammer(l), sum);
        return x.account(0) - before;
    }

    private static void promise7PremiumIsMadeEvenOnce() {
        AuctionRoom x = Check.room();
        Check.due("7 no rows", premiumOf(x, 1000), 0);
        x.premium(100, 2500);
        Check.due("7 at the first from", premiumOf(x, 100), 0);
        Check.due("7 a half of an even one: 0.5", premiumOf(x, 102), 0);
        Check.due("7 below a half: 0.25", premiumOf(x, 101), 0);
        Check.due("7 above a half: 0.75", premiumOf(x, 103), 1);
        Check.due("7 a half of an odd one: 1.5", premiumOf(x, 106), 2);
        Check.due("7 a half of an even one: 2.5", premiumOf(x, 110), 2);
        x.premium(103, 5000);
        // 3 * 2500 and 1 * 5000 are 12500: 1.25; each for itself made even would be 1 + 0.
        Check.due("7 two rows", premiumOf(x, 104), 1);
        // 3 * 2500 and 3 * 5000 are 22500: 2.25; each for itself made even would be 1 + 2.
        Check.due("7 two rows", premiumOf(x, 106), 2);
        Check.due("7 not above the next row", premiumOf(x, 103), 1);
        x.premium(200, 0);
        // 3 * 2500 and 97 * 5000 are 492500: 49.25, and nothing above 200.
        Check.due("7 three rows", premiumOf(x, 100000), 49);
        Check.due("7 total", x.total(), 0);
    }

    private static void promise8Tax() {
        AuctionRoom x = Check.room();
        Check.due("8 kind 0", x.tax(0, 1), -1);
        Check.due("8 kind 6", x.tax(6, 1), -1);
        Check.due("8 rate -1", x.tax(1, -1), -1);
        Check.due("8 rate too much", x.tax(1, 10001), -1);
        for (int kind = 1; kind <= 5; kind++) Check.due("8 at first", x.tax(kind, 100 * kind), 0);
        for (int kind = 1; kind <= 5; kind++) Check.due("8 was", x.tax(kind, 1000 * kind), 100 * kind);
        Check.due("8 most", x.tax(1, 10000), 1000);
        x.premium(0, 1000);
        int l = Check.calledLot(x, 2, 50, 0);
        x.bid(l, 0, 50);
        Check.due("8 hammer", x.hammer(l), 100);
        // h + p is 110, of which a PAIR's tax is 20 %.
        Check.due("8 taxes", x.account(1), 22);
        Check.due("8 buyer", x.balance(0), -132);
        Check.due("8 tax of a sold kind", x.tax(2, 3), 2000);
    }
}
