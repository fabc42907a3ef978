import java.util.ArrayList;
import java.util.List;
import java.util.Random;
import java.util.function.ToLongFunction;

/** Long runs of calls on a room and on its model: each answer, and all that can be asked behind it. */
public final class ModelTest {
    private static final int RUNS = 600;
    private static final int ACTS = 300;
    private static final long SUM = 1_000_000_000_000L;

    private record Act(String name, ToLongFunction<AuctionRoom> onRoom, ToLongFunction<RoomModel> onModel) {
    }

    private final Random random;
    private final AuctionRoom x = new AuctionRoom();
    private final RoomModel m = new RoomModel();
    private final List<String> told = new ArrayList<>();
    private final long scale;
    private final int batchShare;
    private final int keptRefusals;

    private ModelTest(int seed) {
        random = new Random(seed);
        scale = seed % 7 == 0 ? SUM : seed % 3 == 0 ? 2000 : 60;
        batchShare = new int[] {0, 0, 3, 5, 8, 12, 20, 60}[seed % 8];
        keptRefusals = seed % 5 == 0 ? 100 : 4;
    }

    public static void main(String[] args) {
        // How many acts were done (0) or refused for a reason: what no run reaches is not tested.
        int[] acts = new int[15];
        for (int seed = 1; seed <= RUNS; seed++) {
            ModelTest test = new ModelTest(seed);
            if (!test.run(acts)) {
                System.out.println("run " + seed + " differs behind:");
                for (String call : test.told) System.out.println("  " + call);
                System.exit(1);
            }
        }
        StringBuilder list = new StringBuilder();
        for (int why = 0; why < acts.length; why++) {
            list.append(' ').append(why).append(": ").append(acts[why]);
            if (acts[why] == 0) {
                System.out.println("no run reached reason " + why);
                System.exit(1);
            }
        }
        System.out.println(RUNS + " runs are as the model's; acts by WHY:" + list);
    }

    private boolean run(int[] acts) {
        for (int i = 0; i < ACTS; i++) {
            Act act = i < 4 ? bidder(i + 1, 900) : chosenAct();
            if (!same(act.name, act.onRoom.applyAsLong(x), act.onModel.applyAsLong(m))) return false;
            acts[m.why]++;
            int before = told.size();
            if (!allAsked()) return false;
            told.subList(before, told.size()).clear();
        }
        return true;
    }

    private boolean same(String call, long got, long want) {
        told.add(call + " = " + got + (got == want ? "" : ", the model: " + want));
        return got == want;
    }

    /** Most acts that would be refused are left out: else no batch would live long. */
    private Act chosenAct() {
        Act act = someAct();
        for (int i = 0; i < 30; i++) {
            if (pick(100) < keptRefusals || act.onModel.applyAsLong(m.fork()) >= 0) return act;
            act = someAct();
        }
        return act;
    }

    private int pick(int below) {
        return random.nextInt(below);
    }

    private boolean seldom() {
        return pick(60) == 0;
    }

    private int someLot() {
        if (seldom()) return new int[] {-1, 399, 400, Integer.MAX_VALUE}[pick(4)];
        return pick(m.all.lots.size() + (m.all.lots.isEmpty() || seldom() ? 1 : 0));
    }

    private int someBidder() {
        if (seldom()) return new int[] {-1, 199, 200, Integer.MIN_VALUE}[pick(4)];
        return pick(m.all.bidders.size() + (m.all.bidders.isEmpty() || seldom() ? 1 : 0));
    }

    private long someSum() {
        if (seldom()) return new long[] {0, -1, SUM, SUM + 1, Long.MAX_VALUE}[pick(5)];
        return 1 + (long) (random.nextDouble() * scale);
    }

    private int someKind(int most) {
        return seldom() ? pick(2) * (most + 1) : 1 + pick(most);
    }

    private int someRate() {
        return seldom() ? 10001 : pick(3) == 0 ? 500 * pick(21) : pick(10001);
    }

    /** A sum near what is asked, so that runs of bids get far. */
    private long sumFor(int l) {
        if (l < 0 || l >= m.all.lots.size() || pick(4) == 0) return someSum();
        RoomModel.Lot lot = m.all.lots.get(l);
        long stands = lot.standing() == null ? lot.start : lot.standing().sum();
        return Math.max(1, Math.min(SUM, stands + pick(1 + (int) Math.min(scale / 4, 1000))));
    }

    private long someFrom(List<RoomModel.Row> table) {
        return seldom() ? -1 : table.size() * (scale / 8) + pick((int) Math.min(scale, 100));
    }

    private Act someAct() {
        int l = someLot();
        int b = someBidder();
        int i = pick(6) - 1;
        if (pick(100) < batchShare) return batchAct();
        switch (pick(26)) {
            case 0: return bidder(someKind(4), seldom() ? -1 : someSum() * 5);
            case 1: case 2: case 3: return lot();
            case 4: case 5: return new Act("seller " + l + " " + b, r -> r.seller(l, b), r -> r.seller(l, b));
            case 6: case 7: return new Act("call " + l, r -> r.call(l), r -> r.call(l));
            case 8: case 9: case 10: case 11: case 12: return bid(l, b);
            case 13: case 14: case 15: return limit(l, b);
            case 16: return new Act("ask " + l, r -> r.ask(l), r -> r.ask(l));
            case 17: return new Act("open " + l, r -> r.open(l), r -> r.open(l));
            case 18: return tick(l);
            case 19: return new Act("take " + l + " " + b, r -> r.take(l, b), r -> r.take(l, b));
            case 20: return pick(2) == 0
                ? new Act("bidderAt " + l + " " + i, r -> r.bidderAt(l, i), r -> r.bidderAt(l, i))
                : new Act("sumAt " + l + " " + i, r -> r.sumAt(l, i), r -> r.sumAt(l, i));
            case 21: return new Act("hammer " + l, r -> r.hammer(l), r -> r.hammer(l));
            case 22: return joinOrSettle(l);
            case 23: return reoffer(l);
            case 24: return tableOrRate(l);
            default: return money(b);
        }
    }

    private Act batchAct() {
        switch (pick(5)) {
            case 0: case 1: case 2: return new Act("batch", r -> r.batch(), r -> r.batch());
            case 3: return new Act("end", r -> r.end(), r -> r.end());
            default: return new Act("undo", r -> r.undo(), r -> r.undo());
        }
    }

    private static Act bidder(int kind, long purse) {
        return new Act("bidder " + kind + " " + purse, r -> r.bidder(kind, purse), r -> r.bidder(kind, purse));
    }

    private Act lot() {
        int kind = someKind(5);
        long start = pick(2) == 0 ? someSum() : 1 + someSum() / 4;
        long reserve = pick(2) == 0 ? 0 : someSum();
        return new Act("lot " + kind + " " + start + " " + reserve,
            r -> r.lot(kind, start, reserve), r -> r.lot(kind, start, reserve));
    }

    private Act bid(int l, int b) {
        long sum = sumFor(l);
        return new Act("bid " + l + " " + b + " " + sum, r -> r.bid(l, b, sum), r -> r.bid(l, b, sum));
    }

    private Act limit(int l, int b) {
        long sum = sumFor(l);
        return new Act("limit " + l + " " + b + " " + sum, r -> r.limit(l, b, sum), r -> r.limit(l, b, sum));
    }

    private Act tick(int l) {
        long by = someSum();
        return new Act("tick " + l + " " + by, r -> r.tick(l, by), r -> r.tick(l, by));
    }

    private Act joinOrSettle(int l) {
        int a = someLot();
        int b = someLot();
        return pick(2) == 0 ? new Act("settle " + l, r -> r.settle(l), r -> r.settle(l))
            : new Act("join " + l + " " + a + " " + b, r -> r.join(l, a, b), r -> r.join(l, a, b));
    }

    private Act reoffer(int l) {
        long start = someSum();
        return new Act("reoffer " + l + " " + start, r -> r.reoffer(l, start), r -> r.reoffer(l, start));
    }

    private Act tableOrRate(int l) {
        int rate = someRate();
        int kind = someKind(5);
        long by = someSum();
        long step = someFrom(m.all.steps);
        long bracket = someFrom(m.all.brackets);
        switch (pick(4)) {
            case 0: return new Act("step " + step + " " + by, r -> r.step(step, by), r -> r.step(step, by));
            case 1: return new Act("premium " + bracket + " " + rate,
                r -> r.premium(bracket, rate), r -> r.premium(bracket, rate));
            case 2: return new Act("tax " + kind + " " + rate, r -> r.tax(kind, rate), r -> r.tax(kind, rate));
            default: return new Act("cut " + l + " " + rate, r -> r.cut(l, rate), r -> r.cut(l, rate));
        }
    }

    private Act money(int b) {
        long sum = someSum();
        return pick(2) == 0 ? new Act("pay " + b + " " + sum, r -> r.pay(b, sum), r -> r.pay(b, sum))
            : new Act("payOut " + b + " " + sum, r -> r.payOut(b, sum), r -> r.payOut(b, sum));
    }

    private boolean allAsked() {
        boolean good = same("why", x.why(), m.why) & same("tries", x.tries(), m.tries)
            & same("numbers", x.numbers(0), m.numbers) & same("batches", x.batches(), m.kept.size())
            & same("digest", x.digest(), m.digest()) & same("total", x.total(), 0);
        for (int i = 0; i <= m.trace.size(); i++) {
            good &= same("trace " + i, x.trace(i), i < m.trace.size() && i < 200 ? m.trace.get(i) : 0);
        }
        for (int what = 0; what < 3; what++) good &= same("account", x.account(what), m.all.accounts[what]);
        for (int b = 0; b < m.all.bidders.size(); b++) {
            good &= same("balance " + b, x.balance(b), m.all.bidders.get(b).balance);
        }
        for (int l = 0; l < m.all.lots.size(); l++) good &= askedOfLot(l, m.all.lots.get(l));
        return good;
    }

    private boolean askedOfLot(int l, RoomModel.Lot lot) {
        RoomModel.Entry stands = lot.standing();
        return same("state " + l, x.state(l), lot.state)
            & same("stands " + l, x.stands(l), stands == null ? -1 : stands.bidder())
            & same("sum " + l, x.sum(l), stands == null ? 0 : stands.sum())
            & same("entries " + l, x.entries(l), lot.book == null ? -1 : lot.book.size())
            & same("cause 0 " + l, x.cause(l, 0), lot.first)
            & same("cause 1 " + l, x.cause(l, 1), lot.second);
    }
}
