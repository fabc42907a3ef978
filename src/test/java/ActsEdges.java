import java.util.function.ToLongFunction;

/** The sentences of 'Terms' on acts, their first reasons and their trace that name a boundary. */
final class ActsEdges {
    private ActsEdges() {
    }

    static void run() {
        eachActIsATry();
        whyOfTheLatestAct();
        lotsBeyond();
        biddersBeyond();
        lastLotAndBidder();
        lookedUpAsAKind();
        bidderLookedUpAsAKind();
        openLots();
        traceOf200();
        traceOfARefusedAct();
        traceOfTheLatestAct();
    }

    /** Every act, done, in an order that lets each be done. */
    private static long[] doneActs(AuctionRoom x) {
        return new long[] {
            x.bidder(1, 0), x.bidder(2, 0), x.lot(1, 10, 0), x.seller(0, 1), x.cut(0, 1), x.step(0, 1),
            x.premium(0, 1), x.tax(1, 1), x.limit(0, 1, 15), x.call(0), x.bid(0, 0, 20), x.ask(0),
            x.bidderAt(0, 0), x.sumAt(0, 0), x.hammer(0), x.pay(0, 9), x.payOut(1, 1), x.lot(4, 10, 0),
            x.call(1), x.bid(1, 0, 10), x.open(1), x.lot(1, 10, 0), x.call(2), x.hammer(2), x.reoffer(2, 10),
            x.lot(5, 10, 0), x.call(3), x.tick(3, 1), x.take(3, 0), x.lot(1, 1, 0), x.lot(1, 1, 0),
            x.join(2, 4, 5), x.call(2), x.call(4), x.call(5), x.settle(2), x.batch(), x.end(), x.batch(), x.undo()};
    }

    /** Every act once, refused. */
    private static long[] refusedActs(AuctionRoom x) {
        return new long[] {
            x.bidder(0, 0), x.lot(0, 0, 0), x.seller(0, 0), x.cut(0, 0), x.step(0, 0), x.premium(0, -1),
            x.tax(0, 0), x.call(0), x.bid(0, 0, 1), x.limit(0, 0, 1), x.ask(0), x.open(0), x.tick(0, 1),
            x.take(0, 0), x.bidderAt(0, 0), x.sumAt(0, 0), x.hammer(0), x.join(0, 1, 2), x.settle(0),
            x.reoffer(0, 1), x.pay(0, 1), x.payOut(0, 1), x.end(), x.undo()};
    }

    private static void eachActIsATry() {
        Check.sentence("Terms", "Each act is a TRY.");
        AuctionRoom x = new AuctionRoom();
        long[] done = doneActs(x);
        for (int i = 0; i < done.length; i++) Check.due("act " + i + " is done", done[i] >= 0);
        Check.due("done ones", x.tries(), done.length);
        AuctionRoom y = new AuctionRoom();
        long[] refused = refusedActs(y);
        for (int i = 0; i < refused.length; i++) Check.due("act " + i + " is refused", refused[i] < 0);
        Check.due("refused ones", y.tries(), refused.length);
        for (int i = 1; i <= 8; i++) y.batch();
        Check.due("a batch too many", y.batch(), -12);
        Check.due("with it", y.tries(), refused.length + 9);
    }

    private static void whyOfTheLatestAct() {
        Check.sentence("Terms", "A refused act answers less than 0: WHY with a minus");
        Check.sentence("Terms", "WHY, of the latest act: 0 it was done; else the first of these that holds");
        AuctionRoom x = Check.room();
        Check.due("refused", x.lot(0, 0, 0), -1);
        Check.due("why", x.why(), 1);
        Check.due("done", x.lot(1, 1, 0), 0);
        Check.due("why", x.why(), 0);
        Check.due("refused", x.hammer(0), -6);
        Check.due("why", x.why(), 6);
        Check.due("a question between", x.state(5), -1);
        Check.due("why", x.why(), 6);
        Check.due("done, and its answer is 0", x.call(0), 0);
        Check.due("why", x.why(), 0);
    }

    private static void due3Or2(AuctionRoom x, String what, int number, long answer, int most) {
        boolean within = number >= 0 && number < most;
        Check.due(what + " of " + number, answer, within ? -2 : -3);
        Check.due(what + " of " + number + ": why", x.why(), within ? 2 : 3);
    }

    private static void lotsBeyond() {
        Check.sentence("Terms", "3 beyond: a lot's number that is not 0 .. 399");
        Check.sentence("Terms", "\"l is looked up\" (or b): 3, then 2.");
        int[] numbers = {0, 1, 399, -1, 400, Integer.MIN_VALUE, Integer.MAX_VALUE};
        for (int l : numbers) {
            AuctionRoom x = Check.room();
            due3Or2(x, "seller", l, x.seller(l, 0), 400);
            due3Or2(x, "cut", l, x.cut(l, 0), 400);
            due3Or2(x, "call", l, x.call(l), 400);
            due3Or2(x, "bid", l, x.bid(l, 0, 1), 400);
            due3Or2(x, "limit", l, x.limit(l, 2, 1), 400);
            due3Or2(x, "ask", l, x.ask(l), 400);
            due3Or2(x, "open", l, x.open(l), 400);
            due3Or2(x, "tick", l, x.tick(l, 1), 400);
            due3Or2(x, "take", l, x.take(l, 0), 400);
            due3Or2(x, "bidderAt", l, x.bidderAt(l, 0), 400);
            due3Or2(x, "sumAt", l, x.sumAt(l, 0), 400);
            due3Or2(x, "hammer", l, x.hammer(l), 400);
            due3Or2(x, "settle", l, x.settle(l), 400);
            due3Or2(x, "reoffer", l, x.reoffer(l, 1), 400);
            due3Or2(x, "join, whole", l, x.join(l, 0, 0), 400);
            x.lot(1, 1, 0);
            if (l == 0) continue;
            due3Or2(x, "join, first part", l, x.join(0, l, 0), 400);
            due3Or2(x, "join, second part", l, x.join(0, 0, l), 400);
        }
    }

    private static void biddersBeyond() {
        Check.sentence("Terms", "a bidder's not 0 .. 199");
        int[] numbers = {0, 1, 199, -1, 200, Integer.MIN_VALUE, Integer.MAX_VALUE};
        for (int b : numbers) {
            AuctionRoom x = new AuctionRoom();
            x.lot(1, 1, 0);
            x.lot(5, 1, 0);
            due3Or2(x, "seller", b, x.seller(0, b), 200);
            due3Or2(x, "bid", b, x.bid(0, b, 1), 200);
            due3Or2(x, "limit", b, x.limit(0, b, 1), 200);
            due3Or2(x, "take", b, x.take(1, b), 200);
            due3Or2(x, "pay", b, x.pay(b, 1), 200);
            due3Or2(x, "payOut", b, x.payOut(b, 1), 200);
        }
    }

    private static void lastLotAndBidder() {
        Check.sentence("Terms", "2 no such lot or bidder is made");
        AuctionRoom x = Check.room();
        Check.due("the last bidder", x.pay(5, 1), 1);
        Check.due("the one behind", x.pay(6, 1), -2);
        x.batch();
        x.bidder(1, 0);
        x.lot(1, 1, 0);
        Check.due("made in a batch", x.seller(0, 6), 1);
        x.undo();
        Check.due("a bidder that was taken back", x.pay(6, 1), -2);
        Check.due("a lot that was taken back", x.call(0), -2);
        x.lot(1, 1, 0);
        Check.due("the last lot", x.call(0), 0);
        Check.due("the one behind", x.call(1), -2);
    }

    private static void dueOfKinds(String what, boolean[] good, ToLongFunction<AuctionRoom> act) {
        for (int kind = 1; kind <= 5; kind++) {
            AuctionRoom x = Check.room();
            x.lot(kind, 1, 0);
            // A new lot of a good kind has no book, which is looked at behind the kind.
            Check.due(what + " of kind " + kind, act.applyAsLong(x), good[kind - 1] ? -6 : -4);
        }
    }

    private static void lookedUpAsAKind() {
        Check.sentence("Terms", "\"as FALLING\" (or another kind): 3, then 4 if it is made and none, then 2.");
        boolean[] sealed = {false, false, false, true, false};
        boolean[] falling = {false, false, false, false, true};
        dueOfKinds("open", sealed, x -> x.open(0));
        dueOfKinds("tick", falling, x -> x.tick(0, 1));
        dueOfKinds("take", falling, x -> x.take(0, 0));
        AuctionRoom x = Check.room();
        x.lot(1, 1, 0);
        Check.due("not made", x.open(1), -2);
        Check.due("not made", x.tick(1, 1), -2);
        Check.due("not made", x.take(1, 0), -2);
    }

    private static void bidderLookedUpAsAKind() {
        Check.sentence("Terms", "\"as FALLING\" (or another kind): 3, then 4 if it is made and none, then 2.");
        AuctionRoom x = new AuctionRoom();
        for (int kind = 1; kind <= 4; kind++) x.bidder(kind, 50);
        x.lot(5, 1, 0);
        Check.due("a ROOM takes; but there is no book", x.take(0, 0), -6);
        for (int b = 1; b < 4; b++) Check.due("no ROOM", x.take(0, b), -4);
        Check.due("not made", x.take(0, 4), -2);
        x.lot(1, 1, 0);
        Check.due("a ROOM is no PAPER", x.limit(1, 0, 5), -4);
        Check.due("a HOUSE is no PAPER", x.limit(1, 3, 5), -4);
        Check.due("a PAPER", x.limit(1, 1, 5), 1);
        Check.due("an AGENT is a PAPER, too", x.limit(1, 2, 5), 2);
        Check.due("not made", x.limit(1, 4, 5), -2);
    }

    /** What an act that asks for an open lot answers in each state: 6 for a new one, 9 for an ended one. */
    private static void dueOfStates(String what, AuctionRoom x, int[] newPassedAgain, ToLongFunction<Integer> act) {
        Check.due(what + " of a new lot", act.applyAsLong(newPassedAgain[0]), -6);
        Check.due(what + " of a lot that passed", act.applyAsLong(newPassedAgain[1]), -9);
        Check.due(what + " of a lot that is new again", act.applyAsLong(newPassedAgain[2]), -6);
        Check.due(what + ": why", x.why(), 6);
    }

    private static int[] newPassedAgain(AuctionRoom x, int kind) {
        int fresh = Check.newLot(x, kind, 10, 0);
        int passed = Check.passedLot(x, kind, 10, 0);
        int again = Check.passedLot(x, kind, 10, 0);
        Check.due("reoffer", x.reoffer(again, 10), 1);
        return new int[] {fresh, passed, again};
    }

    private static void openLots() {
        Check.sentence("Terms", "\"It is open\": 6 if it has no book, 9 if it is not called.");
        AuctionRoom x = Check.room();
        int[] single = newPassedAgain(x, 1);
        int[] sealed = newPassedAgain(x, 4);
        int[] falling = newPassedAgain(x, 5);
        dueOfStates("bid", x, single, l -> x.bid(l, 0, 10));
        dueOfStates("bid on sealed", x, sealed, l -> x.bid(l, 0, 10));
        dueOfStates("ask", x, single, l -> x.ask(l));
        dueOfStates("ask of sealed", x, sealed, l -> x.ask(l));
        dueOfStates("ask of falling", x, falling, l -> x.ask(l));
        dueOfStates("open", x, sealed, l -> x.open(l));
        dueOfStates("tick", x, falling, l -> x.tick(l, 1));
        dueOfStates("take", x, falling, l -> x.take(l, 0));
        dueOfStates("hammer", x, single, l -> x.hammer(l));
        int sold = Check.soldLot(x, 1, 10);
        Check.due("bid on a sold lot", x.bid(sold, 1, 100), -9);
        Check.due("ask of a sold lot", x.ask(sold), -9);
        Check.due("hammer of a sold lot", x.hammer(sold), -9);
        int taken = Check.soldLot(x, 5, 10);
        Check.due("tick of a sold lot", x.tick(taken, 1), -9);
        Check.due("take of a sold lot", x.take(taken, 1), -9);
        int opened = Check.calledLot(x, 4, 10, 0);
        x.bid(opened, 0, 10);
        x.open(opened);
        x.hammer(opened);
        Check.due("open of a sold lot", x.open(opened), -9);
        Check.due("bid on it", x.bid(opened, 1, 10), -9);
    }

    /** How an act runs so many bodies: an AGENT's limit asks all lots on which he has written. */
    private static AuctionRoom limitOfBodies(int bodies) {
        AuctionRoom x = new AuctionRoom();
        x.bidder(3, Check.SUM);
        int others = bodies - 3;
        for (int l = 0; l < others; l++) {
            x.lot(1, 1, 0);
            x.limit(l, 0, 1);
        }
        // The other kinds' bodies come last, so that it shows which ones are left out.
        x.lot(2, 1, 0);
        Check.due("limit", x.limit(others, 0, 1), bodies - 2);
        return x;
    }

    private static void traceOf200() {
        Check.sentence("Terms", "The TRACE of an act are the bodies that ran in it, in order, the first 200 of them");
        for (int bodies = 199; bodies <= 202; bodies++) {
            AuctionRoom x = limitOfBodies(bodies);
            Check.due("0 of " + bodies, x.trace(0), 10);
            Check.due("1 of " + bodies, x.trace(1), 9);
            Check.due("2 of " + bodies, x.trace(2), 5);
            for (int i = 195; i < 200; i++) Check.due(i + " of " + bodies, x.trace(i), i < bodies ? 4 : 0);
            for (int i = 200; i < 204; i++) Check.due(i + " of " + bodies, x.trace(i), 0);
        }
    }

    private static void traceOfARefusedAct() {
        Check.sentence("Terms", "also when it was refused behind them.");
        AuctionRoom x = Check.room();
        int l = Check.calledLot(x, 1, 10, 20);
        Check.due("behind ASK", x.bid(l, 0, 9), -10);
        Check.trace("behind ASK", x, 1);
        Check.due("behind MAY", x.bid(l, 5, 20), -11);
        Check.trace("behind MAY", x, 1, 8);
        Check.due("ahead of ASK", x.bid(l, 2, 20), -4);
        Check.trace("ahead of ASK", x);
        int none = (int) x.lot(2, 10, 0);
        x.call(none);
        x.bid(none, 0, 10);
        Check.due("behind SOLD and PIECES", x.hammer(none), -5);
        Check.trace("behind SOLD and PIECES", x, 11, 5);
        x.batch();
        Check.due("in a batch", x.bid(l, 0, 9), -10);
        Check.trace("in a batch", x, 1);
    }

    private static void traceOfTheLatestAct() {
        Check.sentence("Promise 40", "Body i, from 0, of the TRACE of the latest act; 0 if there is none.");
        AuctionRoom x = Check.room();
        int l = Check.calledLot(x, 4, 10, 0);
        x.bid(l, 0, 10);
        Check.due("-1", x.trace(-1), 0);
        Check.due("0", x.trace(0), 2);
        Check.due("2", x.trace(2), 7);
        Check.due("3", x.trace(3), 0);
        Check.due("least", x.trace(Integer.MIN_VALUE), 0);
        Check.due("greatest", x.trace(Integer.MAX_VALUE), 0);
        x.digest();
        Check.due("a question leaves it", x.trace(0), 2);
        x.pay(0, 1);
        Check.due("an act without bodies", x.trace(0), 0);
        x.ask(l);
        Check.due("a refused act", x.call(l), -9);
        Check.due("has its own", x.trace(0), 0);
    }
}
