import java.util.ArrayList;
import java.util.List;
import java.util.function.ToLongFunction;

/** What a refused act changes, and what taking back gives: seen by all that a busy room answers then. */
final class RefusalEdges {
    private record Act(String name, long answer, ToLongFunction<AuctionRoom> call) {
    }

    private static final List<String> UNTOUCHED = BusyRoom.probe(BusyRoom.make());

    private RefusalEdges() {
    }

    static void run() {
        probesTell();
        refusedActChangesNothing();
        refusedActTakesTheBatchesBack();
        refusedActOfAFullRoom();
        undoGivesAll();
        undoGivesAllOfManyActs();
        undoGivesAllOfALongBatch();
        endChangesNothing();
        takingBackLeavesTriesNumbersWhy();
    }

    private static void dueAsUntouched(String what, AuctionRoom x) {
        List<String> told = BusyRoom.probe(x);
        String differs = "";
        for (int i = 0; i < told.size() && differs.isEmpty(); i++) {
            if (!told.get(i).equals(UNTOUCHED.get(i))) differs = told.get(i) + ", untouched: " + UNTOUCHED.get(i);
        }
        Check.due(what + " leaves no trace; " + differs, differs.isEmpty());
    }

    private static List<Act> refusedActs() {
        List<Act> acts = new ArrayList<>();
        refusedTables(acts);
        refusedBids(acts);
        refusedLimits(acts);
        refusedOpens(acts);
        refusedEnds(acts);
        refusedMoney(acts);
        return acts;
    }

    private static void refusedTables(List<Act> acts) {
        acts.add(new Act("bidder, kind", -1, x -> x.bidder(5, 0)));
        acts.add(new Act("bidder, purse", -1, x -> x.bidder(3, -1)));
        acts.add(new Act("lot, start", -1, x -> x.lot(1, 0, 0)));
        acts.add(new Act("lot, reserve", -1, x -> x.lot(5, 1, 2)));
        acts.add(new Act("seller, lot", -2, x -> x.seller(BusyRoom.LOTS, 0)));
        acts.add(new Act("seller, bidder", -2, x -> x.seller(BusyRoom.NEW, 6)));
        acts.add(new Act("seller, state", -9, x -> x.seller(BusyRoom.CALLED, 0)));
        acts.add(new Act("seller, again", -8, x -> x.seller(BusyRoom.NEW, 5)));
        acts.add(new Act("seller, full", -12, x -> x.seller(BusyRoom.FOUR_SELLERS, 4)));
        acts.add(new Act("cut, rate", -1, x -> x.cut(BusyRoom.NEW, 10001)));
        acts.add(new Act("cut, state", -9, x -> x.cut(BusyRoom.PASSED, 1)));
        acts.add(new Act("step, by", -1, x -> x.step(60, 0)));
        acts.add(new Act("step, from", -10, x -> x.step(50, 1)));
        acts.add(new Act("premium, rate", -1, x -> x.premium(200, 10001)));
        acts.add(new Act("premium, from", -10, x -> x.premium(100, 1)));
        acts.add(new Act("tax, rate", -1, x -> x.tax(1, 10001)));
    }

    private static void refusedBids(List<Act> acts) {
        acts.add(new Act("call, lot", -3, x -> x.call(400)));
        acts.add(new Act("call, state", -9, x -> x.call(BusyRoom.CALLED)));
        acts.add(new Act("call, passed", -9, x -> x.call(BusyRoom.PASSED)));
        acts.add(new Act("bid, sum", -1, x -> x.bid(BusyRoom.CALLED, 1, 0)));
        acts.add(new Act("bid, lot", -2, x -> x.bid(BusyRoom.LOTS, 1, 50)));
        acts.add(new Act("bid, falling", -4, x -> x.bid(BusyRoom.FALLING, 1, 90)));
        acts.add(new Act("bid, bidder", -2, x -> x.bid(BusyRoom.CALLED, 6, 50)));
        acts.add(new Act("bid, paper", -4, x -> x.bid(BusyRoom.CALLED, 2, 50)));
        acts.add(new Act("bid, no book", -6, x -> x.bid(BusyRoom.NEW, 1, 50)));
        acts.add(new Act("bid, ended", -9, x -> x.bid(BusyRoom.SOLD, 1, 50)));
        acts.add(new Act("bid, opened", -8, x -> x.bid(BusyRoom.OPENED, 5, 15)));
        acts.add(new Act("bid, stands", -13, x -> x.bid(BusyRoom.CALLED, 0, 50)));
        acts.add(new Act("bid, has an entry", -13, x -> x.bid(BusyRoom.SEALED, 1, 50)));
        acts.add(new Act("bid, too little", -10, x -> x.bid(BusyRoom.CALLED, 1, 36)));
        acts.add(new Act("bid, may not", -11, x -> x.bid(BusyRoom.CALLED, 5, 40)));
    }

    private static void refusedLimits(List<Act> acts) {
        acts.add(new Act("limit, sum", -1, x -> x.limit(BusyRoom.NEW, 3, 0)));
        acts.add(new Act("limit, sealed", -4, x -> x.limit(BusyRoom.NEW_SEALED, 3, 50)));
        acts.add(new Act("limit, room", -4, x -> x.limit(BusyRoom.NEW, 0, 50)));
        acts.add(new Act("limit, ended", -9, x -> x.limit(BusyRoom.PASSED, 3, 50)));
        acts.add(new Act("limit, written", -13, x -> x.limit(BusyRoom.CALLED, 2, 50)));
        acts.add(new Act("limit, may not", -11, x -> x.limit(BusyRoom.CALLED, 4, 943)));
        acts.add(new Act("ask, no book", -6, x -> x.ask(BusyRoom.NEW)));
        acts.add(new Act("ask, ended", -9, x -> x.ask(BusyRoom.SOLD)));
    }

    private static void refusedOpens(List<Act> acts) {
        acts.add(new Act("open, kind", -4, x -> x.open(BusyRoom.CALLED)));
        acts.add(new Act("open, no book", -6, x -> x.open(BusyRoom.NEW_SEALED)));
        acts.add(new Act("open, opened", -8, x -> x.open(BusyRoom.OPENED)));
        acts.add(new Act("open, empty", -14, x -> x.open(BusyRoom.EMPTY_SEALED)));
        acts.add(new Act("tick, by", -1, x -> x.tick(BusyRoom.FALLING, 0)));
        acts.add(new Act("tick, kind", -4, x -> x.tick(BusyRoom.CALLED, 1)));
        acts.add(new Act("tick, no book", -6, x -> x.tick(BusyRoom.NEW_FALLING, 1)));
        acts.add(new Act("tick, ended", -9, x -> x.tick(BusyRoom.PASSED_FALLING, 1)));
        acts.add(new Act("tick, taken", -8, x -> x.tick(BusyRoom.TAKEN, 1)));
        acts.add(new Act("tick, at RESERVE", -10, x -> x.tick(BusyRoom.AT_RESERVE, 1)));
        acts.add(new Act("take, bidder", -4, x -> x.take(BusyRoom.FALLING, 5)));
        acts.add(new Act("take, no book", -6, x -> x.take(BusyRoom.NEW_FALLING, 0)));
        acts.add(new Act("take, taken", -8, x -> x.take(BusyRoom.TAKEN, 0)));
        acts.add(new Act("bidderAt, no book", -6, x -> x.bidderAt(BusyRoom.NEW, 0)));
        acts.add(new Act("bidderAt, sealed yet", -7, x -> x.bidderAt(BusyRoom.SEALED, 0)));
        acts.add(new Act("sumAt, beyond", -3, x -> x.sumAt(BusyRoom.CALLED, 9)));
    }

    private static void refusedEnds(List<Act> acts) {
        acts.add(new Act("hammer, no book", -6, x -> x.hammer(BusyRoom.NEW)));
        acts.add(new Act("hammer, ended", -9, x -> x.hammer(BusyRoom.SOLD)));
        acts.add(new Act("hammer, joined", -8, x -> x.hammer(BusyRoom.FIRST)));
        acts.add(new Act("hammer, no seller", -5, x -> x.hammer(BusyRoom.NO_SELLER)));
        acts.add(new Act("join, same", -13, x -> x.join(BusyRoom.NEW, BusyRoom.FOUR_SELLERS, BusyRoom.NEW)));
        acts.add(new Act("join, kind", -4, x -> x.join(BusyRoom.NEW, BusyRoom.FOUR_SELLERS, BusyRoom.NEW_SEALED)));
        acts.add(new Act("join, state", -9, x -> x.join(BusyRoom.NEW, BusyRoom.FOUR_SELLERS, BusyRoom.CALLED)));
        acts.add(new Act("join, joined", -8, x -> x.join(BusyRoom.NEW, BusyRoom.FOUR_SELLERS, BusyRoom.NEW_FIRST)));
        acts.add(new Act("settle, no whole", -14, x -> x.settle(BusyRoom.FIRST)));
        acts.add(new Act("settle, no book", -6, x -> x.settle(BusyRoom.NEW_WHOLE)));
        acts.add(new Act("reoffer, start", -1, x -> x.reoffer(BusyRoom.PASSED, 0)));
        acts.add(new Act("reoffer, state", -9, x -> x.reoffer(BusyRoom.SOLD, 5)));
        acts.add(new Act("reoffer, falling", -10, x -> x.reoffer(BusyRoom.PASSED_FALLING, 29)));
    }

    private static void refusedMoney(List<Act> acts) {
        acts.add(new Act("pay, sum", -1, x -> x.pay(0, 0)));
        acts.add(new Act("pay, bidder", -2, x -> x.pay(6, 1)));
        acts.add(new Act("payOut, sum", -1, x -> x.payOut(0, 0)));
        acts.add(new Act("payOut, too little", -10, x -> x.payOut(1, 1_000_000)));
    }

    private static List<Act> doneActs() {
        List<Act> acts = new ArrayList<>();
        int next = BusyRoom.NUMBERS + 1;
        acts.add(new Act("bidder", 6, x -> x.bidder(3, 500)));
        acts.add(new Act("lot", BusyRoom.LOTS, x -> x.lot(1, 5, 0)));
        acts.add(new Act("seller", 2, x -> x.seller(BusyRoom.NEW, 1)));
        acts.add(new Act("cut", 250, x -> x.cut(BusyRoom.NEW, 99)));
        acts.add(new Act("step", 3, x -> x.step(51, 9)));
        acts.add(new Act("premium", 3, x -> x.premium(101, 9)));
        acts.add(new Act("tax", 100, x -> x.tax(1, 9)));
        acts.add(new Act("call", 1, x -> x.call(BusyRoom.NEW)));
        acts.add(new Act("call of a FALLING lot", 0, x -> x.call(BusyRoom.NEW_FALLING)));
        acts.add(new Act("bid", next, x -> x.bid(BusyRoom.CALLED, 1, 60)));
        acts.add(new Act("bid on a SEALED lot", next, x -> x.bid(BusyRoom.EMPTY_SEALED, 1, 60)));
        acts.add(new Act("limit", next, x -> x.limit(BusyRoom.CALLED, 3, 60)));
        acts.add(new Act("limit on a new lot", next, x -> x.limit(BusyRoom.NEW, 3, 60)));
        acts.add(new Act("limit of the AGENT", next, x -> x.limit(BusyRoom.CALLED, 4, 60)));
        acts.add(new Act("ask", 37, x -> x.ask(BusyRoom.CALLED)));
        acts.add(new Act("open", 25, x -> x.open(BusyRoom.SEALED)));
        acts.add(new Act("tick", 75, x -> x.tick(BusyRoom.FALLING, 5)));
        acts.add(new Act("take", 80, x -> x.take(BusyRoom.FALLING, 0)));
        acts.add(new Act("hammer that sells", 25, x -> x.hammer(BusyRoom.OPENED)));
        acts.add(new Act("hammer that passes", 0, x -> x.hammer(BusyRoom.CALLED)));
        acts.add(new Act("join", 1, x -> x.join(BusyRoom.NEW, BusyRoom.FOUR_SELLERS, (int) x.lot(1, 1, 0))));
        acts.add(new Act("settle", 50, x -> x.settle(BusyRoom.WHOLE)));
        acts.add(new Act("reoffer", 1, x -> x.reoffer(BusyRoom.PASSED, 5)));
        acts.add(new Act("reoffer of a FALLING lot", 1, x -> x.reoffer(BusyRoom.PASSED_FALLING, 50)));
        acts.add(new Act("pay", 5, x -> x.pay(0, 5)));
        acts.add(new Act("payOut", 5, x -> x.payOut(0, 5)));
        return acts;
    }

    /** Where a done act changed nothing that the probes tell, an undone one would show nothing, too. */
    private static void probesTell() {
        Check.sentence("Terms", "TAKING BACK gives all that was then but tries, numbers of bids, WHY and the trace.");
        for (Act act : doneActs()) {
            AuctionRoom x = BusyRoom.make();
            Check.due(act.name, act.call.applyAsLong(x), act.answer);
            boolean same = BusyRoom.probe(x).equals(UNTOUCHED);
            Check.due(act.name + " is seen by the probes", same == act.name.equals("ask"));
        }
    }

    private static void refusedActChangesNothing() {
        Check.sentence("Terms", "and changes nothing but WHY, tries, the trace");
        for (Act act : refusedActs()) {
            AuctionRoom x = BusyRoom.make();
            int tries = x.tries();
            Check.due(act.name, act.call.applyAsLong(x), act.answer);
            Check.due(act.name + ": why", x.why(), -act.answer);
            Check.due(act.name + ": tries", x.tries(), tries + 1);
            Check.due(act.name + ": numbers", x.numbers(0), BusyRoom.NUMBERS);
            dueAsUntouched(act.name, x);
        }
    }

    /** Acts of every kind, none of which is refused, in one batch inside of another. */
    private static void openBatches(AuctionRoom x) {
        Check.due("batch", x.batch(), 1);
        x.bidder(2, 0);
        x.step(55, 1);
        x.cut(BusyRoom.NEW, 1);
        x.bid(BusyRoom.CALLED, 1, 41);
        x.settle(BusyRoom.WHOLE);
        Check.due("batch", x.batch(), 2);
        x.lot(1, 1, 0);
        x.tax(1, 5);
        x.call(BusyRoom.NEW);
        x.reoffer(BusyRoom.PASSED, 7);
        x.limit(BusyRoom.PASSED, 6, 8);
        x.take(BusyRoom.FALLING, 0);
        x.payOut(0, 3);
        Check.due("nothing was refused yet", x.batches(), 2);
        Check.due("numbers", x.numbers(0), BusyRoom.NUMBERS + 2);
    }

    private static void refusedActTakesTheBatchesBack() {
        Check.sentence("Terms", "but if a BATCH is open, all that was done since the outermost was opened"
            + " is taken back, and none is open any more.");
        List<Act> acts = new ArrayList<>();
        acts.add(new Act("bidder", -1, x -> x.bidder(0, 0)));
        acts.add(new Act("call", -9, x -> x.call(BusyRoom.NEW)));
        acts.add(new Act("bid", -10, x -> x.bid(BusyRoom.CALLED, 0, 9)));
        acts.add(new Act("limit", -9, x -> x.limit(BusyRoom.SECOND, 2, 9)));
        acts.add(new Act("hammer", -5, x -> x.hammer(BusyRoom.NO_SELLER)));
        acts.add(new Act("settle", -9, x -> x.settle(BusyRoom.WHOLE)));
        acts.add(new Act("sumAt", -7, x -> x.sumAt(BusyRoom.SEALED, 0)));
        acts.add(new Act("join", -8, x -> x.join(BusyRoom.LOTS, BusyRoom.PASSED, BusyRoom.NEW_WHOLE)));
        acts.add(new Act("payOut", -10, x -> x.payOut(6, 3)));
        acts.add(new Act("a ninth batch", -12, x -> {
            for (int i = 0; i < 6; i++) x.batch();
            return x.batch();
        }));
        for (Act act : acts) {
            AuctionRoom x = BusyRoom.make();
            openBatches(x);
            Check.due(act.name, act.call.applyAsLong(x), act.answer);
            Check.due(act.name + ": why", x.why(), -act.answer);
            Check.due(act.name + ": none is open", x.batches(), 0);
            Check.due(act.name + ": numbers stay", x.numbers(0), BusyRoom.NUMBERS + 2);
            dueAsUntouched(act.name, x);
        }
    }

    private static void dueFull(AuctionRoom x, String what, ToLongFunction<AuctionRoom> call) {
        long before = x.digest();
        int numbers = x.numbers(0);
        x.batch();
        x.pay(0, 9);
        Check.due(what, call.applyAsLong(x), -12);
        Check.due(what + ": no batch is open", x.batches(), 0);
        Check.due(what + ": nothing changed", x.digest(), before);
        Check.due(what + ": nothing changed outside a batch", call.applyAsLong(x) == -12 && x.digest() == before);
        Check.due(what + ": no number was taken", x.numbers(0), numbers);
    }

    private static void refusedActOfAFullRoom() {
        Check.sentence("Terms", "12 full");
        AuctionRoom x = new AuctionRoom();
        for (int b = 0; b < 200; b++) x.bidder(2, 0);
        dueFull(x, "200 bidders", r -> r.bidder(1, 0));
        x.lot(1, 1, 0);
        for (int b = 0; b < 40; b++) x.limit(0, b, 5);
        dueFull(x, "40 limits", r -> r.limit(0, 40, 9));
        for (int row = 0; row < 20; row++) {
            x.step(row, 1);
            x.premium(row, 1);
        }
        dueFull(x, "20 steps", r -> r.step(99, 1));
        dueFull(x, "20 brackets", r -> r.premium(99, 1));
        AuctionRoom y = Check.room();
        for (int l = 0; l < 400; l++) y.lot(1, 1, 0);
        dueFull(y, "400 lots", r -> r.lot(1, 1, 0));
        AuctionRoom z = Check.room();
        Check.calledLot(z, 1, 1, 0);
        for (int i = 1; i <= 299; i++) z.bid(0, i % 2, i);
        dueFull(z, "299 entries", r -> r.bid(0, 0, 500));
        z.limit(0, 2, 400);
        dueFull(z, "300 entries", r -> r.limit(0, 3, 500));
    }

    private static void undoGivesAll() {
        Check.sentence("Terms", "TAKING BACK gives all that was then but tries, numbers of bids, WHY and the trace.");
        for (Act act : doneActs()) {
            AuctionRoom x = BusyRoom.make();
            x.batch();
            Check.due(act.name, act.call.applyAsLong(x), act.answer);
            Check.due("undo", x.undo(), 0);
            dueAsUntouched(act.name, x);
        }
    }

    private static void undoGivesAllOfManyActs() {
        Check.sentence("Promise 26", "All that was done since the innermost batch was opened is taken back");
        AuctionRoom x = BusyRoom.make();
        openBatches(x);
        Check.due("undo", x.undo(), 1);
        Check.due("undo", x.undo(), 0);
        dueAsUntouched("undo of both", x);
        AuctionRoom y = BusyRoom.make();
        openBatches(y);
        Check.due("end", y.end(), 1);
        Check.due("undo", y.undo(), 0);
        dueAsUntouched("undo behind end", y);
    }

    private static void undoGivesAllOfALongBatch() {
        Check.sentence("Promise 26", "All that was done since the innermost batch was opened is taken back");
        AuctionRoom x = Check.room();
        int l = Check.calledLot(x, 1, 1, 0);
        x.limit(l, 2, 1000);
        x.pay(0, 3);
        long before = x.digest();
        x.batch();
        for (int i = 0; i < 149; i++) x.bid(l, i % 2, 2 + 2 * i);
        for (int i = 0; i < 150; i++) x.pay(i % 6, 1 + i);
        x.batch();
        for (int i = 0; i < 150; i++) x.payOut(i % 6, 1);
        Check.due("a full book", x.entries(l), 299);
        Check.due("inner", x.undo(), 1);
        Check.due("till", x.account(2), -3 - 150 * 151 / 2);
        Check.due("outer", x.undo(), 0);
        Check.due("digest", x.digest(), before);
        Check.due("stands", x.sum(l), 1);
        Check.due("FIRST", x.cause(l, 0), 1);
        Check.due("SECOND", x.cause(l, 1), 0);
        Check.due("the next bid", x.bid(l, 0, 2), 151);
        Check.due("papers", x.sum(l), 3);
        Check.due("second entry", x.sumAt(l, 1), 2);
        Check.due("no more than three", x.sumAt(l, 3), -3);
    }

    private static void endChangesNothing() {
        Check.sentence("Promise 25", "The innermost batch is closed: what was done in it stays done");
        for (Act act : doneActs()) {
            AuctionRoom x = BusyRoom.make();
            act.call.applyAsLong(x);
            AuctionRoom y = BusyRoom.make();
            y.batch();
            act.call.applyAsLong(y);
            Check.due("end", y.end(), 0);
            Check.due(act.name + " stays done", BusyRoom.probe(x).equals(BusyRoom.probe(y)));
        }
    }

    private static void takingBackLeavesTriesNumbersWhy() {
        Check.sentence("Terms", "TAKING BACK gives all that was then but tries, numbers of bids, WHY and the trace.");
        AuctionRoom x = BusyRoom.make();
        Check.due("refused", x.bid(BusyRoom.CALLED, 1, 36), -10);
        int tries = x.tries();
        x.batch();
        x.bid(BusyRoom.CALLED, 1, 41);
        Check.trace("the bid's", x, 1, 7);
        x.undo();
        Check.due("why", x.why(), 0);
        Check.trace("the undo's", x);
        Check.due("tries", x.tries(), tries + 3);
        Check.due("numbers", x.numbers(0), BusyRoom.NUMBERS + 1);
        x.batch();
        x.limit(BusyRoom.CALLED, 3, 41);
        Check.due("refused", x.bid(BusyRoom.CALLED, 1, 36), -10);
        Check.due("why", x.why(), 10);
        Check.trace("the refused one's", x, 1);
        Check.due("tries", x.tries(), tries + 6);
        Check.due("numbers", x.numbers(0), BusyRoom.NUMBERS + 2);
    }
}
