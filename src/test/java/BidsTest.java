/** Promises 9 to 17. */
public final class BidsTest {
    public static void main(String[] args) {
        promise9Call();
        promise10BidReasonsInOrder();
        promise10BidAndPapers();
        promise10House();
        promise10Sealed();
        promise10And11FullBook();
        promise11LimitReasonsInOrder();
        promise11RivalsAndRaises();
        promise11NoLessThanHeStandsAt();
        promise11Agent();
        promise11FortyLimits();
        promise12Ask();
        promise13Open();
        promise13ReserveOfSealed();
        promise14Tick();
        promise15Take();
        promise16And17Entries();
        Check.end();
    }

    private static void promise9Call() {
        AuctionRoom x = Check.room();
        Check.due("9 beyond", x.call(-1), -3);
        Check.due("9 beyond", x.call(400), -3);
        Check.due("9 none", x.call(399), -2);
        x.lot(1, 10, 0);
        x.limit(0, 2, 9);
        Check.due("9 a limit below START is no rival", x.call(0), 0);
        Check.due("9 state", x.state(0), 1);
        Check.due("9 book", x.entries(0), 0);
        Check.due("9 cause", x.cause(0, 0), 0);
        Check.due("9 twice", x.call(0), -9);
        x.lot(1, 10, 0);
        x.limit(1, 2, 10);
        Check.due("9 a limit at START is one", x.call(1), 1);
        Check.due("9 sum", x.sum(1), 10);
        x.lot(2, 10, 30);
        x.limit(2, 2, 25);
        Check.due("9 below RESERVE: at the limit", x.call(2), 1);
        Check.due("9 sum", x.sum(2), 25);
        x.lot(5, 70, 0);
        Check.due("9 falling", x.call(3), 0);
        Check.due("9 price", x.ask(3), 70);
        Check.trace("9 falling's ask", x, 3);
        Check.due("9 call of nothing", x.call(3), -9);
        Check.trace("9 no body runs", x);
    }

    private static void promise10BidReasonsInOrder() {
        AuctionRoom x = Check.room();
        x.lot(1, 10, 0);
        x.lot(5, 10, 0);
        Check.due("10 sum comes first", x.bid(-1, -1, 0), -1);
        Check.due("10 sum too much", x.bid(0, 0, Check.SUM + 1), -1);
        Check.due("10 beyond", x.bid(-1, -1, 1), -3);
        Check.due("10 no lot", x.bid(2, -1, 1), -2);
        Check.due("10 falling", x.bid(1, -1, 1), -4);
        Check.due("10 bidder beyond", x.bid(0, 200, 1), -3);
        Check.due("10 no bidder", x.bid(0, 6, 1), -2);
        Check.due("10 paper", x.bid(0, 2, 1), -4);
        Check.due("10 agent", x.bid(0, 4, 1), -4);
        Check.due("10 no book", x.bid(0, 0, 1), -6);
        x.seller(0, 5);
        x.call(0);
        Check.due("10 too little", x.bid(0, 0, 9), -10);
        Check.trace("10 ASK was asked", x, 1);
        Check.due("10 done", x.bid(0, 0, 10), 1);
        Check.trace("10 ASK and MAY", x, 1, 7);
        Check.due("10 he stands", x.bid(0, 0, 1), -13);
        Check.trace("10 ahead of ASK", x);
        Check.due("10 too little", x.bid(0, 1, 10), -10);
        Check.due("10 done", x.bid(0, 1, 11), 2);
        Check.due("10 entries", x.entries(0), 2);
        x.hammer(0);
        Check.due("10 sold", x.bid(0, 1, 50), -9);
        Check.due("10 numbers", x.numbers(0), 2);
    }

    private static void promise10BidAndPapers() {
        AuctionRoom x = Check.room();
        x.step(0, 10);
        int l = Check.calledLot(x, 1, 100, 0);
        Check.due("10 bid", x.bid(l, 0, 150), 1);
        Check.due("10 limit below the bid", x.limit(l, 2, 120), 2);
        Check.due("10 the bid stands", x.stands(l), 0);
        Check.due("10 first", x.cause(l, 0), 1);
        Check.due("10 second", x.cause(l, 1), 2);
        Check.due("10 limit as the bid, but later", x.limit(l, 3, 150), 3);
        Check.due("10 the bid stands", x.stands(l), 0);
        Check.due("10 second", x.cause(l, 1), 3);
        Check.due("10 next bid", x.bid(l, 1, 165), 4);
        Check.due("10 only the latest bid is a rival", x.cause(l, 1), 3);
        x.bidder(2, 0);
        Check.due("10 limit above", x.limit(l, 6, 300), 5);
        Check.due("10 he stands", x.stands(l), 6);
        Check.due("10 at AFTER of the bid", x.sum(l), 175);
        Check.due("10 bid as the limit, but later", x.bid(l, 0, 300), 6);
        Check.due("10 the limit stands", x.stands(l), 6);
        Check.due("10 at itself", x.sum(l), 300);
        Check.due("10 entries", x.entries(l), 5);
        Check.due("10 the bid's entry", x.bidderAt(l, 3), 0);
        Check.due("10 first", x.cause(l, 0), 5);
        Check.due("10 second", x.cause(l, 1), 6);
    }

    private static void promise10House() {
        AuctionRoom x = Check.room();
        int l = Check.calledLot(x, 1, 10, 50);
        Check.due("10 house at RESERVE", x.bid(l, 5, 50), -11);
        Check.trace("10 house", x, 1, 8);
        Check.due("10 house below RESERVE", x.bid(l, 5, 49), 1);
        Check.due("10 room", x.bid(l, 0, 50), 2);
        Check.due("10 house above", x.bid(l, 5, 51), -11);
        int free = Check.calledLot(x, 1, 10, 0);
        Check.due("10 house without a RESERVE", x.bid(free, 5, 10), -11);
    }

    private static void promise10Sealed() {
        AuctionRoom x = Check.room();
        int l = Check.calledLot(x, 4, 100, 300);
        Check.due("10 sealed below START", x.bid(l, 0, 99), -10);
        Check.trace("10 sealed ASK", x, 2, 1);
        Check.due("10 sealed", x.bid(l, 0, 500), 1);
        Check.due("10 less than another", x.bid(l, 1, 100), 2);
        Check.trace("10 sealed ASK and MAY", x, 2, 1, 7);
        Check.due("10 he has an entry", x.bid(l, 0, 600), -13);
        Check.due("10 nothing stands", x.stands(l), -1);
        Check.due("10 no sum", x.sum(l), 0);
        Check.due("10 entries", x.entries(l), 2);
        Check.due("10 papers are not asked", x.cause(l, 0), 0);
        Check.due("10 open", x.open(l), 300);
        Check.due("10 opened", x.bid(l, 5, 200), -8);
        Check.due("10 opened comes ahead of 13", x.bid(l, 0, 200), -8);
    }

    private static void promise10And11FullBook() {
        AuctionRoom x = Check.room();
        int l = Check.calledLot(x, 1, 1, 0);
        x.limit(l, 2, 1000);
        // Each bid makes two entries: his, and that of the paper behind it.
        for (int i = 0; i < 149; i++) Check.due("10 bid", x.bid(l, i % 2, 2 + 2 * i), 2 + i);
        Check.due("10 book of 299", x.entries(l), 299);
        Check.due("10 full", x.bid(l, 0, 900), -12);
        Check.trace("10 full comes behind ASK and MAY", x, 1, 7);
        Check.due("10 too little comes ahead", x.bid(l, 0, 1), -10);
        Check.due("10 no number was taken", x.numbers(0), 150);
        Check.due("11 the last entry", x.limit(l, 3, 600), 151);
        Check.due("11 book of 300", x.entries(l), 300);
        Check.due("11 sum", x.sum(l), 601);
        Check.due("11 full", x.limit(l, 4, 700), -12);
        Check.trace("11 full comes behind MAY", x, 10, 9, 4);
        Check.due("11 too much comes ahead", x.limit(l, 4, 1001), -11);
        Check.due("17 last entry", x.sumAt(l, 299), 601);
        Check.due("17 beyond", x.sumAt(l, 300), -3);
        Check.due("18 hammer", x.hammer(l), 601);

        int other = Check.calledLot(x, 2, 1, 0);
        for (int i = 0; i < 298; i++) x.bid(other, i % 2, 1 + i);
        Check.due("10 book of 298", x.entries(other), 298);
        Check.due("10 a bid that fits", x.bid(other, 0, 400), 151 + 299);
        Check.due("10 book of 299", x.entries(other), 299);
        Check.due("10 full", x.bid(other, 1, 401), -12);
    }

    private static void promise11LimitReasonsInOrder() {
        AuctionRoom x = Check.room();
        x.lot(1, 10, 0);
        x.lot(4, 10, 0);
        x.lot(5, 10, 0);
        Check.due("11 sum comes first", x.limit(-1, -1, 0), -1);
        Check.due("11 sum too much", x.limit(0, 2, Check.SUM + 1), -1);
        Check.due("11 beyond", x.limit(400, -1, 1), -3);
        Check.due("11 no lot", x.limit(3, -1, 1), -2);
        Check.due("11 sealed", x.limit(1, -1, 1), -4);
        Check.due("11 falling", x.limit(2, -1, 1), -4);
        Check.due("11 bidder beyond", x.limit(0, -1, 1), -3);
        Check.due("11 no bidder", x.limit(0, 6, 1), -2);
        Check.due("11 room", x.limit(0, 0, 1), -4);
        Check.due("11 house", x.limit(0, 5, 1), -4);
        Check.due("11 paper", x.limit(0, 2, 20), 1);
        Check.trace("11 paper", x, 9);
        Check.due("11 written", x.limit(0, 2, 30), -13);
        Check.trace("11 written", x);
        x.seller(0, 5);
        Check.due("11 new lots ask no papers", x.cause(0, 0), 0);
        Check.due("11 call", x.call(0), 1);
        Check.due("11 written", x.limit(0, 2, 30), -13);
        Check.due("11 hammer", x.hammer(0), 10);
        Check.due("11 ended", x.limit(0, 3, 30), -9);
        Check.due("11 state comes ahead of 13", x.limit(0, 2, 30), -9);
        Check.due("11 kind comes ahead of state", x.limit(0, 0, 30), -4);
    }

    private static void promise11RivalsAndRaises() {
        AuctionRoom x = Check.room();
        x.step(0, 10);
        x.bidder(2, 0);
        int l = Check.calledLot(x, 3, 100, 130);
        Check.due("11 alone: at RESERVE", x.limit(l, 2, 200), 1);
        Check.due("11 sum", x.sum(l), 130);
        Check.due("11 first", x.cause(l, 0), 1);
        Check.due("11 no second", x.cause(l, 1), 0);
        Check.due("11 below START", x.limit(l, 3, 99), 2);
        Check.due("11 is no rival", x.cause(l, 1), 0);
        Check.due("11 entries", x.entries(l), 1);
        Check.due("11 agent above his purse", x.limit(l, 4, 84), -11);
        Check.due("11 second below RESERVE", x.limit(l, 6, 115), 3);
        Check.due("11 no entry", x.entries(l), 1);
        Check.due("11 second", x.cause(l, 1), 3);
        x.bidder(2, 0);
        Check.due("11 second above RESERVE", x.limit(l, 7, 195), 4);
        Check.due("11 the lesser: himself", x.sum(l), 200);
        Check.due("11 same bidder, one more entry", x.entries(l), 2);
        Check.due("11 stands", x.stands(l), 2);
        x.bidder(2, 0);
        Check.due("11 the same sum, later", x.limit(l, 8, 200), 5);
        Check.due("11 the least number is first", x.cause(l, 0), 1);
        Check.due("11 the other is second", x.cause(l, 1), 5);
        Check.due("11 nothing changes", x.entries(l), 2);
        x.bidder(2, 0);
        Check.due("11 above all", x.limit(l, 9, 500), 6);
        Check.due("11 stands", x.stands(l), 9);
        Check.due("11 AFTER of second", x.sum(l), 210);
        Check.due("11 second of equal ones", x.cause(l, 1), 1);
        Check.due("11 brings", x.hammer(l), 2520);
    }

    private static void promise11NoLessThanHeStandsAt() {
        AuctionRoom x = Check.room();
        x.step(0, 100);
        int l = Check.calledLot(x, 1, 10, 0);
        x.limit(l, 2, 1000);
        x.limit(l, 3, 50);
        Check.due("11 AFTER of second", x.sum(l), 150);
        x.step(60, 1);
        x.bidder(2, 0);
        Check.due("11 a step of less", x.limit(l, 6, 70), 3);
        Check.due("11 second", x.cause(l, 1), 3);
        Check.due("11 he stands at no less", x.sum(l), 150);
        Check.due("11 no entry is made", x.entries(l), 2);
        x.bidder(2, 0);
        Check.due("11 one that asks more", x.limit(l, 7, 150), 4);
        Check.due("11 sum", x.sum(l), 151);
    }

    private static void promise11Agent() {
        AuctionRoom x = Check.room();
        x.lot(1, 10, 0);
        x.lot(2, 10, 0);
        x.lot(3, 10, 0);
        x.lot(1, 10, 0);
        for (int l = 0; l < 4; l++) x.seller(l, 5);
        Check.due("11 above his purse", x.limit(2, 4, 84), -11);
        Check.trace("11 agent", x, 10, 9, 6, 5);
        Check.due("11 another's limit is none of his", x.limit(1, 2, 900), 1);
        Check.due("11 in his purse", x.limit(2, 4, 50), 2);
        Check.due("11 too much with it", x.limit(0, 4, 401), -11);
        Check.trace("11 agent's other lots", x, 10, 9, 4, 6, 5);
        Check.due("11 all of it", x.limit(0, 4, 400), 3);
        Check.due("11 one more", x.limit(1, 4, 1), -11);
        Check.trace("11 by numbers", x, 10, 9, 5, 4, 6, 5);
        x.call(0);
        Check.due("11 called ones count", x.limit(1, 4, 1), -11);
        Check.due("11 sold", x.hammer(0), 10);
        Check.due("11 sold ones do not", x.limit(1, 4, 200), 4);
        Check.trace("11 but the others", x, 10, 9, 5, 6, 5);
        Check.due("11 full again", x.limit(3, 4, 1), -11);
        Check.due("11 a PAPER has no purse", x.limit(3, 2, Check.SUM), 5);
    }

    private static void promise11FortyLimits() {
        AuctionRoom x = new AuctionRoom();
        for (int b = 0; b < 41; b++) x.bidder(2, 0);
        x.bidder(3, 5);
        x.lot(1, 10, 0);
        for (int b = 0; b < 40; b++) Check.due("11 limit", x.limit(0, b, 100 + b), b + 1);
        Check.due("11 full", x.limit(0, 40, 100), -12);
        Check.due("11 may not comes ahead", x.limit(0, 41, 100), -11);
        Check.due("11 call", x.call(0), 1);
        Check.due("11 stands", x.stands(0), 39);
        Check.due("11 sum", x.sum(0), 139);
        Check.due("11 full", x.limit(0, 40, 100), -12);
    }

    private static void promise12Ask() {
        AuctionRoom x = Check.room();
        Check.due("12 beyond", x.ask(-1), -3);
        Check.due("12 none", x.ask(0), -2);
        x.lot(2, 25, 0);
        x.seller(0, 5);
        Check.due("12 no book", x.ask(0), -6);
        x.call(0);
        Check.due("12 START", x.ask(0), 25);
        Check.trace("12 START", x, 1);
        x.bid(0, 0, 30);
        Check.due("12 AFTER", x.ask(0), 31);
        x.hammer(0);
        Check.due("12 ended", x.ask(0), -9);
        int s = Check.calledLot(x, 4, 25, 0);
        x.bid(s, 0, 30);
        Check.due("12 sealed", x.ask(s), 25);
        Check.trace("12 sealed", x, 2, 1);
        x.open(s);
        Check.due("12 sealed, as if nothing stood", x.ask(s), 25);
        int f = Check.calledLot(x, 5, 25, 0);
        x.take(f, 0);
        Check.due("12 falling that was taken", x.ask(f), 25);
        Check.trace("12 falling", x, 3);
    }

    private static void promise13Open() {
        AuctionRoom x = Check.room();
        x.bidder(1, 0);
        x.lot(1, 10, 0);
        Check.due("13 beyond", x.open(400), -3);
        Check.due("13 none", x.open(1), -2);
        Check.due("13 single", x.open(0), -4);
        x.lot(4, 10, 0);
        Check.due("13 no book", x.open(1), -6);
        x.seller(1, 5);
        x.call(1);
        Check.due("13 no entry", x.open(1), -14);
        x.bid(1, 0, 30);
        x.bid(1, 1, 50);
        x.bid(1, 6, 40);
        Check.due("13 second greatest", x.open(1), 40);
        Check.trace("13 no body runs", x);
        Check.due("13 stands", x.stands(1), 1);
        Check.due("13 sum", x.sum(1), 40);
        Check.due("13 opened", x.open(1), -8);
        Check.due("13 hammer", x.hammer(1), 40);
        Check.due("13 ended", x.open(1), -9);
        int one = Check.calledLot(x, 4, 10, 0);
        x.bid(one, 0, 30);
        Check.due("13 one entry: START", x.open(one), 10);
        int equal = Check.calledLot(x, 4, 10, 0);
        x.bid(equal, 6, 20);
        x.bid(equal, 1, 50);
        x.bid(equal, 0, 50);
        Check.due("13 equal ones", x.open(equal), 50);
        Check.due("13 the first of them", x.stands(equal), 1);
        int falling = Check.calledLot(x, 4, 10, 0);
        x.bid(falling, 0, 50);
        x.bid(falling, 1, 20);
        x.bid(falling, 6, 45);
        Check.due("13 the greatest came first", x.open(falling), 45);
    }

    private static void promise13ReserveOfSealed() {
        AuctionRoom x = Check.room();
        int low = Check.calledLot(x, 4, 10, 100);
        x.bid(low, 0, 99);
        Check.due("13 below RESERVE", x.open(low), 0);
        Check.due("13 why", x.why(), 0);
        Check.due("13 nothing stands", x.stands(low), -1);
        Check.due("13 no sum", x.sum(low), 0);
        Check.due("13 opened", x.open(low), -8);
        Check.due("13 it passes", x.hammer(low), 0);
        Check.trace("13 it passes", x, 12, 11);
        int at = Check.calledLot(x, 4, 10, 100);
        x.bid(at, 0, 100);
        x.bid(at, 1, 60);
        Check.due("13 at RESERVE", x.open(at), 100);
        int above = Check.calledLot(x, 4, 10, 100);
        x.bid(above, 0, 130);
        x.bid(above, 1, 99);
        Check.due("13 RESERVE is above the second", x.open(above), 100);
    }

    private static void promise14Tick() {
        AuctionRoom x = Check.room();
        Check.due("14 by comes first", x.tick(-1, 0), -1);
        Check.due("14 by too much", x.tick(-1, Check.SUM + 1), -1);
        Check.due("14 beyond", x.tick(-1, 1), -3);
        Check.due("14 none", x.tick(0, 1), -2);
        x.lot(1, 10, 0);
        Check.due("14 single", x.tick(0, 1), -4);
        x.lot(5, 100, 30);
        Check.due("14 no book", x.tick(1, 1), -6);
        x.call(1);
        Check.due("14 falls", x.tick(1, 69), 31);
        Check.due("14 not below RESERVE", x.tick(1, 2), 30);
        Check.due("14 at RESERVE", x.tick(1, 1), -10);
        Check.due("14 price", x.ask(1), 30);
        x.take(1, 0);
        Check.due("14 taken comes ahead", x.tick(1, 1), -8);
        x.lot(5, 100, 0);
        x.call(2);
        Check.due("14 not below 1", x.tick(2, Check.SUM), 1);
        Check.due("14 at 1", x.tick(2, 1), -10);
        Check.due("14 passes", x.hammer(2), 0);
        Check.trace("14 falling SOLD", x, 13);
        Check.due("14 ended", x.tick(2, 1), -9);
    }

    private static void promise15Take() {
        AuctionRoom x = Check.room();
        Check.due("15 beyond", x.take(-1, -1), -3);
        Check.due("15 none", x.take(0, -1), -2);
        x.lot(4, 10, 0);
        x.lot(5, 10, 0);
        Check.due("15 sealed", x.take(0, -1), -4);
        Check.due("15 bidder beyond", x.take(1, -1), -3);
        Check.due("15 no bidder", x.take(1, 6), -2);
        for (int b = 2; b <= 5; b++) Check.due("15 no ROOM", x.take(1, b), -4);
        Check.due("15 no book", x.take(1, 0), -6);
        x.seller(1, 5);
        x.call(1);
        x.tick(1, 3);
        Check.due("15 takes", x.take(1, 0), 7);
        Check.trace("15 no body runs", x);
        Check.due("15 no number", x.numbers(0), 0);
        Check.due("15 entry", x.entries(1), 1);
        Check.due("15 stands", x.stands(1), 0);
        Check.due("15 sum", x.sum(1), 7);
        Check.due("15 taken", x.take(1, 1), -8);
        Check.due("15 sold", x.hammer(1), 7);
        Check.trace("15 falling's SOLD and PIECES", x, 13, 4);
        Check.due("15 ended", x.take(1, 1), -9);
    }

    private static void promise16And17Entries() {
        AuctionRoom x = Check.room();
        Check.due("16 beyond", x.bidderAt(400, 0), -3);
        Check.due("17 beyond", x.sumAt(400, 0), -3);
        Check.due("16 none", x.bidderAt(0, 0), -2);
        Check.due("17 none", x.sumAt(0, 0), -2);
        x.lot(1, 10, 0);
        Check.due("16 no book", x.bidderAt(0, -1), -6);
        Check.due("17 no book", x.sumAt(0, -1), -6);
        x.call(0);
        Check.due("16 empty", x.bidderAt(0, 0), -3);
        x.bid(0, 1, 12);
        x.bid(0, 0, 15);
        Check.due("16 entry", x.bidderAt(0, 0), 1);
        Check.due("17 entry", x.sumAt(0, 0), 12);
        Check.due("16 entry", x.bidderAt(0, 1), 0);
        Check.due("17 entry", x.sumAt(0, 1), 15);
        Check.due("16 below", x.bidderAt(0, -1), -3);
        Check.due("17 above", x.sumAt(0, 2), -3);
        Check.due("17 greatest", x.sumAt(0, Integer.MAX_VALUE), -3);
        int s = Check.calledLot(x, 4, 10, 0);
        x.bid(s, 0, 11);
        Check.due("16 sealed yet", x.bidderAt(s, 0), -7);
        Check.due("17 sealed yet, ahead of 3", x.sumAt(s, 9), -7);
        Check.due("16 passes unopened", x.hammer(s), 0);
        Check.trace("18 unopened", x, 12, 11);
        Check.due("16 ended", x.bidderAt(s, 0), 0);
        Check.due("17 ended", x.sumAt(s, 0), 11);
        int o = Check.calledLot(x, 4, 10, 0);
        x.bid(o, 1, 11);
        x.open(o);
        Check.due("16 opened", x.bidderAt(o, 0), 1);
        Check.due("17 opened", x.sumAt(o, 0), 11);
    }
}
