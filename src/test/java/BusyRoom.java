import java.util.ArrayList;
import java.util.List;

/**
 * A room in which much has happened, and a run of calls that brings to light all that can be known
 * of it, also what no question tells: two rooms that answer it alike are in the same state.
 */
final class BusyRoom {
    // Lots, by what became of them.
    static final int NEW = 0;
    static final int CALLED = 1;
    static final int SOLD = 2;
    static final int PASSED = 3;
    static final int SEALED = 4;
    static final int OPENED = 5;
    static final int FALLING = 6;
    static final int TAKEN = 7;
    static final int WHOLE = 8;
    static final int FIRST = 9;
    static final int SECOND = 10;
    static final int NEW_SEALED = 11;
    static final int NEW_FALLING = 12;
    static final int PASSED_FALLING = 13;
    static final int NO_SELLER = 14;
    static final int NEW_WHOLE = 15;
    static final int NEW_FIRST = 16;
    static final int NEW_SECOND = 17;
    static final int AT_RESERVE = 18;
    static final int EMPTY_SEALED = 19;
    static final int FOUR_SELLERS = 20;
    static final int LOTS = 21;

    /** How many numbers of bids its making takes. */
    static final int NUMBERS = 16;

    private final AuctionRoom x;
    private final int numbersMore;
    private final List<String> told = new ArrayList<>();

    private BusyRoom(AuctionRoom x) {
        this.x = x;
        this.numbersMore = x.numbers(0) - NUMBERS;
    }

    static AuctionRoom make() {
        AuctionRoom x = Check.room();
        x.step(0, 2);
        x.step(50, 5);
        x.premium(0, 1000);
        x.premium(100, 500);
        for (int kind = 1; kind <= 5; kind++) x.tax(kind, 100 * kind);
        makeRaised(x);
        makeSealedAndFalling(x);
        makeJoined(x);
        makeRest(x);
        x.pay(0, 5000);
        x.pay(1, 70);
        x.payOut(0, 20);
        Check.due("lots of a busy room", x.kindOf(LOTS - 1) > 0 && x.kindOf(LOTS) == 0);
        Check.due("numbers of a busy room", x.numbers(0), NUMBERS);
        Check.due("nothing was refused last", x.why(), 0);
        return x;
    }

    private static void makeRaised(AuctionRoom x) {
        Check.newLot(x, 1, 10, 0);
        x.cut(NEW, 250);
        x.limit(NEW, 2, 60);
        x.limit(NEW, 4, 30);
        Check.newLot(x, 1, 10, 40);
        x.limit(CALLED, 2, 30);
        x.call(CALLED);
        x.bid(CALLED, 0, 35);
        Check.soldLot(x, 2, 12);
        Check.calledLot(x, 3, 10, 90);
        x.bid(PASSED, 0, 15);
        x.hammer(PASSED);
    }

    private static void makeSealedAndFalling(AuctionRoom x) {
        for (int l = SEALED; l <= OPENED; l++) {
            Check.calledLot(x, 4, 10, 20);
            x.bid(l, 0, 30);
            x.bid(l, 1, 25);
        }
        x.open(OPENED);
        Check.calledLot(x, 5, 100, 30);
        x.tick(FALLING, 20);
        Check.calledLot(x, 5, 100, 30);
        x.take(TAKEN, 1);
    }

    private static void makeJoined(AuctionRoom x) {
        for (int kind : new int[] {1, 1, 2}) Check.newLot(x, kind, 10, 0);
        x.limit(SECOND, 4, 14);
        x.join(WHOLE, FIRST, SECOND);
        for (int l = WHOLE; l <= SECOND; l++) x.call(l);
        x.bid(WHOLE, 0, 50);
        x.bid(FIRST, 1, 20);
        x.bid(SECOND, 1, 15);
    }

    private static void makeRest(AuctionRoom x) {
        Check.newLot(x, 4, 10, 20);
        Check.newLot(x, 5, 100, 30);
        Check.passedLot(x, 5, 100, 30);
        x.lot(1, 10, 0);
        x.call(NO_SELLER);
        x.bid(NO_SELLER, 0, 11);
        for (int i = 0; i < 3; i++) Check.newLot(x, 1, 10, 0);
        x.join(NEW_WHOLE, NEW_FIRST, NEW_SECOND);
        Check.calledLot(x, 5, 100, 30);
        x.tick(AT_RESERVE, 100);
        Check.calledLot(x, 4, 10, 20);
        x.lot(1, 10, 0);
        for (int b = 0; b < 4; b++) x.seller(FOUR_SELLERS, b);
        x.limit(FOUR_SELLERS, 2, 40);
    }

    /** All that the room answers, call by call. It may have given more numbers than its making took. */
    static List<String> probe(AuctionRoom x) {
        BusyRoom room = new BusyRoom(x);
        room.probeAsItIs();
        room.probeTables();
        room.probeLots();
        room.probePurse();
        room.probeEnds();
        return room.told;
    }

    private void tell(String call, long answer) {
        told.add(call + " = " + answer);
    }

    /** Numbers given behind its making are told as if none had been given between. */
    private void tellNumber(String call, long answer) {
        tell(call, answer > NUMBERS ? answer - numbersMore : answer);
    }

    private void probeAsItIs() {
        tell("batches", x.batches());
        tell("digest", x.digest());
        tell("total", x.total());
        tellCauses();
    }

    private void tellCauses() {
        for (int l = 0; l <= LOTS; l++) {
            tellNumber("cause 0 of " + l, x.cause(l, 0));
            tellNumber("cause 1 of " + l, x.cause(l, 1));
        }
    }

    private void probeTables() {
        for (int kind = 1; kind <= 5; kind++) tell("tax " + kind, x.tax(kind, 200 * kind));
        tell("step", x.step(51, 7));
        tell("premium", x.premium(101, 300));
    }

    private void probeLots() {
        for (int l = 0; l < LOTS; l++) {
            tell("cut " + l, x.cut(l, 300));
            tell("seller " + l, x.seller(l, 3));
            tell("ask " + l, x.ask(l));
            tell("sumAt " + l, x.sumAt(l, 0));
            tell("bidderAt " + l, x.bidderAt(l, 1));
            tellNumber("limit " + l, x.limit(l, 2, 45));
            tellNumber("bid " + l, x.bid(l, 1, 39));
        }
    }

    /** The limits of the AGENT on lots that have not ended are 30 and 14 times 2. */
    private void probePurse() {
        int l = (int) x.lot(1, 10, 0);
        tell("lot", l);
        tellNumber("limit above his purse", x.limit(l, 4, 943));
        tellNumber("limit of his purse", x.limit(l, 4, 942));
    }

    private void probeEnds() {
        for (int l = 0; l < LOTS; l++) tell("call " + l, x.call(l));
        for (int l = 0; l < LOTS; l++) {
            if (l >= SEALED && l <= EMPTY_SEALED) tell("open " + l, x.open(l));
            if (l >= FALLING && l <= AT_RESERVE) tell("tick " + l, x.tick(l, 5));
        }
        tellCauses();
        for (int l = 0; l < LOTS; l++) tell("hammer " + l, x.hammer(l));
        tell("settle", x.settle(WHOLE));
        tell("settle", x.settle(NEW_WHOLE));
        for (int l = 0; l < LOTS; l++) tell("reoffer " + l, x.reoffer(l, 35));
        for (int what = 0; what < 3; what++) tell("account", x.account(what));
        tell("bidder", x.bidder(1, 0));
        tell("digest", x.digest());
    }
}
