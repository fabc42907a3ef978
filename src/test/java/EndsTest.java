/** Promises 18 to 21. */
public final class EndsTest {
    public static void main(String[] args) {
        promise18Hammer();
        promise18SaleIsShared();
        promise18NoSeller();
        promise18GreatSums();
        promise18OneCent();
        promise19Join();
        promise20SettleReasons();
        promise20WholeOrParts();
        promise20NoSeller();
        promise21Reoffer();
        promise21Parts();
        Check.end();
    }

    private static void promise18Hammer() {
        AuctionRoom x = Check.room();
        Check.due("18 beyond", x.hammer(-1), -3);
        Check.due("18 none", x.hammer(0), -2);
        x.lot(1, 10, 20);
        Check.due("18 no book", x.hammer(0), -6);
        x.seller(0, 5);
        x.call(0);
        x.bid(0, 0, 19);
        Check.due("18 below RESERVE", x.hammer(0), 0);
        Check.trace("18 passed", x, 11);
        Check.due("18 why", x.why(), 0);
        Check.due("18 state", x.state(0), 3);
        Check.due("18 it still stands", x.stands(0), 0);
        Check.due("18 no money moved", x.balance(0), 0);
        Check.due("18 ended", x.hammer(0), -9);
        int at = Check.calledLot(x, 2, 10, 20);
        x.bid(at, 1, 20);
        Check.due("18 at RESERVE, two pieces", x.hammer(at), 40);
        Check.trace("18 sold", x, 11, 5);
        Check.due("18 state", x.state(at), 2);
        Check.due("18 buyer", x.balance(1), -40);
        Check.due("18 seller", x.balance(5), 40);
        int none = Check.calledLot(x, 1, 10, 0);
        Check.due("18 nothing stands", x.hammer(none), 0);
        Check.due("18 state", x.state(none), 3);
    }

    private static void promise18SaleIsShared() {
        AuctionRoom x = Check.room();
        x.premium(0, 1000);
        x.tax(1, 500);
        x.lot(1, 1, 0);
        x.cut(0, 300);
        x.seller(0, 3);
        x.seller(0, 2);
        x.seller(0, 5);
        x.call(0);
        x.bid(0, 0, 1003);
        Check.due("18 hammer", x.hammer(0), 1003);
        // p is 100.3, so 100; t is 55.15, so 55; c is 30.09, so 30; 973 in three is 324 and a rest of 1.
        Check.due("18 buyer", x.balance(0), -1158);
        Check.due("18 house", x.account(0), 130);
        Check.due("18 taxes", x.account(1), 55);
        Check.due("18 the first has the rest", x.balance(3), 325);
        Check.due("18 second", x.balance(2), 324);
        Check.due("18 third", x.balance(5), 324);
        Check.due("18 till", x.account(2), 0);
        Check.due("18 total", x.total(), 0);
    }

    private static void promise18NoSeller() {
        AuctionRoom x = Check.room();
        x.lot(3, 10, 0);
        x.call(0);
        x.bid(0, 0, 10);
        long before = x.digest();
        Check.due("18 no seller", x.hammer(0), -5);
        Check.trace("18 PIECES were asked", x, 11, 6, 5);
        Check.due("18 nothing changed", x.digest(), before);
        x.lot(1, 10, 0);
        x.call(1);
        Check.due("18 what passes needs none", x.hammer(1), 0);
    }

    private static void promise18GreatSums() {
        AuctionRoom x = Check.room();
        x.premium(0, 10000);
        x.tax(3, 10000);
        x.lot(3, Check.SUM, 0);
        x.cut(0, 10000);
        x.seller(0, 5);
        x.call(0);
        x.bid(0, 0, Check.SUM);
        Check.due("18 hammer", x.hammer(0), 12 * Check.SUM);
        Check.due("18 buyer", x.balance(0), -48 * Check.SUM);
        Check.due("18 house", x.account(0), 24 * Check.SUM);
        Check.due("18 taxes", x.account(1), 24 * Check.SUM);
        Check.due("18 seller", x.balance(5), 0);
        Check.due("18 total", x.total(), 0);
    }

    private static void promise18OneCent() {
        AuctionRoom x = Check.room();
        x.lot(1, 1, 0);
        x.call(0);
        x.bid(0, 0, 1);
        Check.due("18 no seller of a cent", x.hammer(0), -5);
        int l = Check.calledLot(x, 1, 1, 0);
        x.bid(l, 0, 1);
        Check.due("18 a cent", x.hammer(l), 1);
        Check.due("18 state", x.state(l), 2);
        Check.due("18 buyer", x.balance(0), -1);
        Check.due("18 seller", x.balance(5), 1);
    }

    private static void promise19Join() {
        AuctionRoom x = Check.room();
        for (int l = 0; l < 3; l++) x.lot(1 + l, 10, 0);
        x.lot(4, 10, 0);
        x.lot(5, 10, 0);
        for (int l = 5; l < 8; l++) x.lot(1, 10, 0);
        Check.due("19 whole beyond", x.join(400, 8, 8), -3);
        Check.due("19 no whole", x.join(8, -1, 0), -2);
        Check.due("19 first beyond", x.join(0, -1, 8), -3);
        Check.due("19 no first", x.join(0, 8, -1), -2);
        Check.due("19 second beyond", x.join(0, 0, -1), -3);
        Check.due("19 no second", x.join(0, 0, 8), -2);
        Check.due("19 same", x.join(3, 3, 1), -13);
        Check.due("19 same", x.join(3, 1, 3), -13);
        Check.due("19 same", x.join(0, 4, 4), -13);
        Check.due("19 sealed", x.join(3, 1, 2), -4);
        Check.due("19 falling", x.join(1, 4, 2), -4);
        Check.due("19 falling", x.join(1, 2, 4), -4);
        x.call(7);
        Check.due("19 kind comes ahead of state", x.join(7, 1, 4), -4);
        Check.due("19 not new", x.join(7, 1, 2), -9);
        Check.due("19 not new", x.join(1, 7, 2), -9);
        Check.due("19 not new", x.join(1, 2, 7), -9);
        Check.due("19 done", x.join(0, 1, 2), 1);
        Check.due("19 state comes ahead of 8", x.join(0, 1, 7), -9);
        Check.due("19 joined", x.join(0, 5, 6), -8);
        Check.due("19 joined", x.join(5, 1, 6), -8);
        Check.due("19 joined", x.join(5, 6, 2), -8);
        for (int l = 0; l < 3; l++) {
            x.call(l);
            Check.due("19 no hammer", x.hammer(l), -8);
        }
    }

    /** Lots 0 (whole), 1 and 2, SINGLE, joined and, if told so, with sellers; called. */
    private static AuctionRoom joined(boolean wholeSeller, boolean firstSeller, boolean secondSeller) {
        AuctionRoom x = Check.room();
        x.lot(1, 10, 25);
        x.lot(1, 10, 15);
        x.lot(2, 5, 0);
        if (wholeSeller) x.seller(0, 5);
        if (firstSeller) x.seller(1, 5);
        if (secondSeller) x.seller(2, 5);
        Check.due("20 join", x.join(0, 1, 2), 1);
        for (int l = 0; l < 3; l++) Check.due("20 call", x.call(l), 0);
        return x;
    }

    private static void promise20SettleReasons() {
        AuctionRoom x = Check.room();
        for (int l = 0; l < 4; l++) x.lot(1, 10, 0);
        Check.due("20 beyond", x.settle(-1), -3);
        Check.due("20 none", x.settle(4), -2);
        Check.due("20 no whole", x.settle(0), -14);
        x.join(2, 1, 0);
        Check.due("20 a part", x.settle(1), -14);
        Check.due("20 a part", x.settle(0), -14);
        Check.due("20 no book", x.settle(2), -6);
        x.call(2);
        x.call(0);
        Check.due("20 first part's book", x.settle(2), -6);
        x.call(1);
        Check.due("20 nothing stands", x.settle(2), 0);
        Check.trace("20 nothing stands", x, 11, 11, 11);
        for (int l = 0; l < 3; l++) Check.due("20 passed", x.state(l), 3);
        Check.due("20 ended", x.settle(2), -9);
        Check.due("20 still joined", x.settle(1), -14);
        for (int missing = 4; missing < 7; missing++) {
            x = Check.room();
            for (int l = 0; l < 7; l++) x.lot(1, 10, 0);
            x.join(5, 4, 6);
            for (int l = 4; l < 7; l++) if (l != missing) x.call(l);
            Check.due("20 one is not called", x.settle(5), -6);
            Check.trace("20 no body runs", x);
            x.call(missing);
            Check.due("20 all are called", x.settle(5), 0);
        }
    }

    private static void promise20WholeOrParts() {
        AuctionRoom x = joined(true, true, true);
        x.bid(0, 0, 40);
        x.bid(1, 1, 20);
        x.bid(2, 1, 10);
        Check.due("20 equal: the parts", x.settle(0), 40);
        Check.trace("20 parts", x, 11, 4, 11, 4, 11, 5, 4, 5);
        Check.due("20 whole passed", x.state(0), 3);
        Check.due("20 first sold", x.state(1), 2);
        Check.due("20 second sold", x.state(2), 2);
        Check.due("20 buyer", x.balance(1), -40);
        Check.due("20 seller", x.balance(5), 40);

        x = joined(true, true, true);
        x.bid(0, 0, 41);
        x.bid(1, 1, 20);
        x.bid(2, 1, 10);
        Check.due("20 more: the whole", x.settle(0), 41);
        Check.trace("20 whole", x, 11, 4, 11, 4, 11, 5, 4);
        Check.due("20 whole sold", x.state(0), 2);
        Check.due("20 first passed", x.state(1), 3);
        Check.due("20 second passed", x.state(2), 3);
        Check.due("20 buyer", x.balance(0), -41);

        x = joined(true, true, true);
        x.bid(0, 0, 24);
        x.bid(1, 1, 14);
        x.bid(2, 1, 5);
        Check.due("20 whole and first below RESERVE", x.settle(0), 10);
        Check.trace("20 second alone", x, 11, 11, 11, 5, 5);
        Check.due("20 whole passed", x.state(0), 3);
        Check.due("20 first passed", x.state(1), 3);
        Check.due("20 second sold", x.state(2), 2);

        x = joined(true, true, true);
        x.bid(0, 0, 25);
        x.bid(1, 1, 14);
        x.bid(2, 1, 12);
        Check.due("20 only what is sold counts", x.settle(0), 25);
    }

    private static void promise20NoSeller() {
        AuctionRoom x = joined(false, true, true);
        x.bid(0, 0, 30);
        Check.due("20 whole without seller", x.settle(0), -5);
        Check.trace("20 whole without seller", x, 11, 4, 11, 11, 4);
        x.bid(1, 1, 30);
        Check.due("20 the parts have theirs", x.settle(0), 30);

        x = joined(true, true, false);
        x.bid(1, 1, 20);
        x.bid(2, 1, 10);
        long before = x.digest();
        Check.due("20 second without seller", x.settle(0), -5);
        Check.trace("20 behind both", x, 11, 11, 4, 11, 5, 4, 5);
        Check.due("20 nothing changed", x.digest(), before);
        Check.due("20 no money moved", x.balance(5), 0);

        x = joined(true, false, false);
        x.bid(1, 1, 20);
        x.bid(2, 1, 10);
        Check.due("20 first without seller", x.settle(0), -5);
        Check.trace("20 behind the first", x, 11, 11, 4, 11, 5, 4);
    }

    private static void promise21Reoffer() {
        AuctionRoom x = Check.room();
        Check.due("21 start comes first", x.reoffer(-1, 0), -1);
        Check.due("21 start too much", x.reoffer(-1, Check.SUM + 1), -1);
        Check.due("21 beyond", x.reoffer(-1, 1), -3);
        Check.due("21 none", x.reoffer(0, 1), -2);
        x.lot(1, 10, 100);
        x.cut(0, 7);
        x.seller(0, 5);
        Check.due("21 new", x.reoffer(0, 1), -9);
        x.limit(0, 2, 50);
        x.call(0);
        Check.due("21 called", x.reoffer(0, 1), -9);
        x.bid(0, 0, 60);
        Check.due("21 cause", x.cause(0, 0), 2);
        Check.due("21 pass", x.hammer(0), 0);
        Check.due("21 done", x.reoffer(0, 20), 1);
        Check.due("21 state", x.state(0), 0);
        Check.due("21 no book", x.entries(0), -1);
        Check.due("21 nothing stands", x.stands(0), -1);
        Check.due("21 no cause", x.cause(0, 0) + x.cause(0, 1), 0);
        Check.due("21 CUT stays", x.cut(0, 8), 7);
        Check.due("21 SELLERS stay", x.seller(0, 5), -8);
        Check.due("21 no limits: he may write again", x.limit(0, 2, 300), 3);
        Check.due("21 call", x.call(0), 1);
        Check.due("21 the old bid is no rival", x.cause(0, 1), 0);
        Check.due("21 RESERVE stays", x.sum(0), 100);
        Check.due("21 sold", x.hammer(0), 100);
        Check.due("21 sold", x.reoffer(0, 1), -9);

        int start = Check.calledLot(x, 2, 10, 0);
        x.hammer(start);
        x.reoffer(start, 33);
        x.call(start);
        Check.due("21 another START", x.ask(start), 33);

        int f = Check.calledLot(x, 5, 100, 40);
        x.tick(f, 100);
        x.hammer(f);
        Check.due("21 falling below RESERVE", x.reoffer(f, 39), -10);
        Check.due("21 falling at RESERVE", x.reoffer(f, 40), 1);
        x.call(f);
        Check.due("21 its PRICE", x.ask(f), 40);

        int s = Check.calledLot(x, 4, 10, 100);
        x.bid(s, 0, 20);
        x.open(s);
        x.hammer(s);
        Check.due("21 sealed below RESERVE", x.reoffer(s, 5), 1);
        x.call(s);
        Check.due("21 it is sealed again", x.bid(s, 0, 120), x.numbers(0));
        Check.due("21 sealed yet", x.sumAt(s, 0), -7);
        Check.due("21 open", x.open(s), 100);

        int fewer = Check.calledLot(x, 4, 10, 100);
        x.bid(fewer, 0, 98);
        x.bid(fewer, 1, 99);
        x.hammer(fewer);
        x.reoffer(fewer, 10);
        x.call(fewer);
        x.bid(fewer, 0, 300);
        Check.due("21 old entries are gone", x.entries(fewer), 1);
        Check.due("21 they are no second greatest", x.open(fewer), 100);
    }

    private static void promise21Parts() {
        for (int again = 0; again < 3; again++) {
            AuctionRoom x = joined(true, true, true);
            Check.due("21 settle", x.settle(0), 0);
            Check.due("21 reoffer", x.reoffer(again, 1), 1);
            Check.due("21 not joined any more", x.settle(0), -14);
            for (int l = 0; l < 3; l++) {
                if (l != again) Check.due("21 the others stay passed", x.state(l), 3);
                if (l != again) Check.due("21 reoffer", x.reoffer(l, 1), 1);
            }
            Check.due("21 they may be joined otherwise", x.join(2, 0, 1), 1);
            for (int l = 0; l < 3; l++) x.call(l);
            Check.due("21 settle the new whole", x.settle(2), 0);
        }
    }
}
