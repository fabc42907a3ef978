import java.math.BigDecimal;
import java.math.RoundingMode;
import java.util.ArrayList;
import java.util.Comparator;
import java.util.List;

/**
 * The document once more, held quite otherwise: kinds are classes that call those they are, too; a
 * batch keeps a copy of all that there is; a refusal is an exception. Only for comparison.
 */
final class RoomModel {
    static final class Refusal extends RuntimeException {
        private static final long serialVersionUID = 1;
        final int reason;

        Refusal(int reason) {
            super(null, null, false, false);
            this.reason = reason;
        }
    }

    interface Act {
        long run();
    }

    record Row(long from, long worth) {
    }

    record Entry(int bidder, long sum) {
    }

    record Rival(int bidder, long sum, int number, boolean isLimit) {
    }

    static class Bidder {
        int kind;
        long purse;
        long balance;

        Bidder copy() {
            Bidder b = new Bidder();
            b.kind = kind;
            b.purse = purse;
            b.balance = balance;
            return b;
        }
    }

    static final class Lot {
        int kind;
        long start;
        long reserve;
        int cut;
        int state;
        long price;
        boolean opened;
        Entry told;
        Rival bid;
        int first;
        int second;
        List<Integer> joined;
        List<Integer> sellers = new ArrayList<>();
        List<Rival> limits = new ArrayList<>();
        List<Entry> book;

        Lot copy() {
            Lot l = new Lot();
            l.kind = kind;
            l.start = start;
            l.reserve = reserve;
            l.cut = cut;
            l.state = state;
            l.price = price;
            l.opened = opened;
            l.told = told;
            l.bid = bid;
            l.first = first;
            l.second = second;
            l.joined = joined;
            l.sellers = new ArrayList<>(sellers);
            l.limits = new ArrayList<>(limits);
            l.book = book == null ? null : new ArrayList<>(book);
            return l;
        }

        Entry standing() {
            if (kind == 4) return opened ? told : null;
            return book == null || book.isEmpty() ? null : book.get(book.size() - 1);
        }
    }

    static final class All {
        List<Bidder> bidders = new ArrayList<>();
        List<Lot> lots = new ArrayList<>();
        List<Row> steps = new ArrayList<>();
        List<Row> brackets = new ArrayList<>();
        int[] taxes = new int[6];
        long[] accounts = new long[3];

        All copy() {
            All a = new All();
            for (Bidder b : bidders) a.bidders.add(b.copy());
            for (Lot l : lots) a.lots.add(l.copy());
            a.steps.addAll(steps);
            a.brackets.addAll(brackets);
            a.taxes = taxes.clone();
            a.accounts = accounts.clone();
            return a;
        }
    }

    All all = new All();
    final List<All> kept = new ArrayList<>();
    final List<Integer> trace = new ArrayList<>();
    int numbers;
    int tries;
    int why;

    /** A model in the same state, to try an act on. */
    RoomModel fork() {
        RoomModel fork = new RoomModel();
        fork.all = all.copy();
        fork.kept.addAll(kept);
        return fork;
    }

    long act(Act act) {
        tries++;
        trace.clear();
        why = 0;
        All before = all.copy();
        try {
            return act.run();
        } catch (Refusal refusal) {
            all = kept.isEmpty() ? before : kept.get(0);
            kept.clear();
            why = refusal.reason;
            return -why;
        }
    }

    private static void refuseIf(boolean holds, int reason) {
        if (holds) throw new Refusal(reason);
    }

    private static void sum(long x) {
        refuseIf(x < 1 || x > 1_000_000_000_000L, 1);
    }

    private static void money(long x) {
        if (x != 0) sum(x);
    }

    private static void rate(int x) {
        refuseIf(x < 0 || x > 10000, 1);
    }

    private Lot lotAt(int l) {
        refuseIf(l < 0 || l > 399, 3);
        refuseIf(l >= all.lots.size(), 2);
        return all.lots.get(l);
    }

    private Bidder bidderAt(int b) {
        refuseIf(b < 0 || b > 199, 3);
        refuseIf(b >= all.bidders.size(), 2);
        return all.bidders.get(b);
    }

    private static void isOpen(Lot l) {
        refuseIf(l.book == null, 6);
        refuseIf(l.state != 1, 9);
    }

    private static long even(BigDecimal x) {
        return x.movePointLeft(4).setScale(0, RoundingMode.HALF_EVEN).longValueExact();
    }

    private static long even(long x, long rate) {
        return even(BigDecimal.valueOf(x).multiply(BigDecimal.valueOf(rate)));
    }

    private long after(long s) {
        long by = 1;
        for (Row row : all.steps) if (row.from() <= s) by = row.worth();
        return s + by;
    }

    private long premiumOf(long x) {
        BigDecimal together = BigDecimal.ZERO;
        for (int i = 0; i < all.brackets.size(); i++) {
            Row row = all.brackets.get(i);
            long to = i + 1 < all.brackets.size() ? all.brackets.get(i + 1).from() : Long.MAX_VALUE;
            long part = Math.max(0, Math.min(x, to) - row.from());
            together = together.add(BigDecimal.valueOf(part).multiply(BigDecimal.valueOf(row.worth())));
        }
        return even(together);
    }

    // Bodies.

    private long ask1(Lot l, Entry stands) {
        trace.add(1);
        return stands == null ? l.start : after(stands.sum());
    }

    private long askOf(Lot l) {
        switch (l.kind) {
            case 4:
                trace.add(2);
                return ask1(l, null);
            case 5:
                trace.add(3);
                return l.price;
            default:
                return ask1(l, l.standing());
        }
    }

    private long pieces5() {
        trace.add(5);
        return 2;
    }

    private long piecesOf(Lot l) {
        switch (l.kind) {
            case 2:
                return pieces5();
            case 3:
                trace.add(6);
                return 6 * pieces5();
            default:
                trace.add(4);
                return 1;
        }
    }

    private boolean may(int b, Lot l, long sum) {
        switch (all.bidders.get(b).kind) {
            case 1:
                trace.add(7);
                return true;
            case 4:
                trace.add(8);
                return sum < l.reserve;
            case 2:
                trace.add(9);
                return true;
            default:
                trace.add(10);
                trace.add(9);
                long together = sum * piecesOf(l);
                for (Lot other : all.lots) {
                    if (other.state > 1) continue;
                    for (Rival limit : other.limits) {
                        if (limit.bidder() == b) together += limit.sum() * piecesOf(other);
                    }
                }
                return together <= all.bidders.get(b).purse;
        }
    }

    private boolean sold11(Lot l) {
        trace.add(11);
        return l.standing() != null && l.standing().sum() >= l.reserve;
    }

    private boolean soldOf(Lot l) {
        switch (l.kind) {
            case 4:
                trace.add(12);
                boolean says = sold11(l);
                return l.opened && says;
            case 5:
                trace.add(13);
                return l.standing() != null;
            default:
                return sold11(l);
        }
    }

    private void papers(Lot l) {
        if (l.kind > 3) return;
        List<Rival> rivals = new ArrayList<>();
        for (Rival limit : l.limits) if (limit.sum() >= l.start) rivals.add(limit);
        if (l.bid != null) rivals.add(l.bid);
        rivals.sort(Comparator.comparingLong((Rival r) -> -r.sum()).thenComparingInt(Rival::number));
        Rival first = rivals.isEmpty() ? null : rivals.get(0);
        Rival second = rivals.size() < 2 ? null : rivals.get(1);
        l.first = first == null ? 0 : first.number();
        l.second = second == null ? 0 : second.number();
        if (first == null || !first.isLimit()) return;
        long at = Math.max(l.reserve, second == null ? l.start : after(second.sum()));
        at = Math.min(first.sum(), at);
        Entry stands = l.standing();
        boolean he = stands != null && stands.bidder() == first.bidder();
        if (he) at = Math.max(at, stands.sum());
        if (!he || stands.sum() < at) l.book.add(new Entry(first.bidder(), at));
    }

    private long sale(Lot l) {
        Entry stands = l.standing();
        long h = stands.sum() * piecesOf(l);
        long p = premiumOf(h);
        long t = even(h + p, all.taxes[l.kind]);
        long c = even(h, l.cut);
        int n = l.sellers.size();
        refuseIf(n == 0, 5);
        all.bidders.get(stands.bidder()).balance -= h + p + t;
        all.accounts[0] += p + c;
        all.accounts[1] += t;
        long left = h - c;
        for (int i = 0; i < n; i++) {
            long share = (h - c) / n + (i < (h - c) % n ? 1 : 0);
            all.bidders.get(l.sellers.get(i)).balance += share;
            left -= share;
        }
        if (left != 0) throw new IllegalStateException("shares do not sum up");
        l.state = 2;
        return h;
    }

    // Acts.

    long bidder(int kind, long purse) {
        return act(() -> {
            refuseIf(kind < 1 || kind > 4, 1);
            if (kind == 3) money(purse);
            refuseIf(all.bidders.size() == 200, 12);
            Bidder b = new Bidder();
            b.kind = kind;
            b.purse = purse;
            all.bidders.add(b);
            return all.bidders.size() - 1;
        });
    }

    long lot(int kind, long start, long reserve) {
        return act(() -> {
            refuseIf(kind < 1 || kind > 5, 1);
            sum(start);
            money(reserve);
            refuseIf(kind == 5 && reserve > start, 1);
            refuseIf(all.lots.size() == 400, 12);
            Lot l = new Lot();
            l.kind = kind;
            l.start = start;
            l.reserve = reserve;
            all.lots.add(l);
            return all.lots.size() - 1;
        });
    }

    long seller(int l, int b) {
        return act(() -> {
            Lot lot = lotAt(l);
            bidderAt(b);
            refuseIf(lot.state != 0, 9);
            refuseIf(lot.sellers.contains(b), 8);
            refuseIf(lot.sellers.size() == 4, 12);
            lot.sellers.add(b);
            return lot.sellers.size();
        });
    }

    long cut(int l, int rate) {
        return act(() -> {
            rate(rate);
            Lot lot = lotAt(l);
            refuseIf(lot.state != 0, 9);
            int was = lot.cut;
            lot.cut = rate;
            return was;
        });
    }

    private static long addRow(List<Row> table, long from, long worth) {
        refuseIf(table.size() == 20, 12);
        refuseIf(!table.isEmpty() && from <= table.get(table.size() - 1).from(), 10);
        table.add(new Row(from, worth));
        return table.size();
    }

    long step(long from, long by) {
        return act(() -> {
            money(from);
            sum(by);
            return addRow(all.steps, from, by);
        });
    }

    long premium(long from, int rate) {
        return act(() -> {
            money(from);
            rate(rate);
            return addRow(all.brackets, from, rate);
        });
    }

    long tax(int kind, int rate) {
        return act(() -> {
            refuseIf(kind < 1 || kind > 5, 1);
            rate(rate);
            int was = all.taxes[kind];
            all.taxes[kind] = rate;
            return was;
        });
    }

    long call(int l) {
        return act(() -> {
            Lot lot = lotAt(l);
            refuseIf(lot.state != 0, 9);
            lot.state = 1;
            lot.book = new ArrayList<>();
            if (lot.kind == 5) lot.price = lot.start;
            papers(lot);
            return lot.book.size();
        });
    }

    long bid(int l, int b, long sum) {
        return act(() -> {
            sum(sum);
            Lot lot = lotAt(l);
            refuseIf(lot.kind == 5, 4);
            int kind = bidderAt(b).kind;
            refuseIf(kind == 2 || kind == 3, 4);
            isOpen(lot);
            refuseIf(lot.kind == 4 && lot.opened, 8);
            boolean has = lot.kind == 4 ? lot.book.stream().anyMatch(e -> e.bidder() == b)
                : lot.standing() != null && lot.standing().bidder() == b;
            refuseIf(has, 13);
            refuseIf(sum < askOf(lot), 10);
            refuseIf(!may(b, lot, sum), 11);
            refuseIf(lot.book.size() >= 299, 12);
            int number = ++numbers;
            lot.book.add(new Entry(b, sum));
            lot.bid = new Rival(b, sum, number, false);
            papers(lot);
            return number;
        });
    }

    long limit(int l, int b, long sum) {
        return act(() -> {
            sum(sum);
            Lot lot = lotAt(l);
            refuseIf(lot.kind == 4 || lot.kind == 5, 4);
            int kind = bidderAt(b).kind;
            refuseIf(kind != 2 && kind != 3, 4);
            refuseIf(lot.state > 1, 9);
            refuseIf(lot.limits.stream().anyMatch(r -> r.bidder() == b), 13);
            refuseIf(!may(b, lot, sum), 11);
            refuseIf(lot.limits.size() == 40 || lot.book != null && lot.book.size() == 300, 12);
            int number = ++numbers;
            lot.limits.add(new Rival(b, sum, number, true));
            if (lot.state == 1) papers(lot);
            return number;
        });
    }

    long ask(int l) {
        return act(() -> {
            Lot lot = lotAt(l);
            isOpen(lot);
            return askOf(lot);
        });
    }

    long open(int l) {
        return act(() -> {
            Lot lot = lotAt(l);
            refuseIf(lot.kind != 4, 4);
            isOpen(lot);
            refuseIf(lot.opened, 8);
            refuseIf(lot.book.isEmpty(), 14);
            List<Entry> sorted = new ArrayList<>(lot.book);
            sorted.sort(Comparator.comparingLong((Entry e) -> -e.sum()));
            lot.opened = true;
            if (sorted.get(0).sum() < lot.reserve) return 0;
            long at = Math.max(lot.reserve, lot.start);
            if (sorted.size() > 1) at = Math.max(at, sorted.get(1).sum());
            lot.told = new Entry(sorted.get(0).bidder(), at);
            return at;
        });
    }

    long tick(int l, long by) {
        return act(() -> {
            sum(by);
            Lot lot = lotAt(l);
            refuseIf(lot.kind != 5, 4);
            isOpen(lot);
            refuseIf(lot.standing() != null, 8);
            refuseIf(lot.price <= lot.reserve || lot.price <= 1, 10);
            lot.price = Math.max(1, Math.max(lot.reserve, lot.price - by));
            return lot.price;
        });
    }

    long take(int l, int b) {
        return act(() -> {
            Lot lot = lotAt(l);
            refuseIf(lot.kind != 5, 4);
            refuseIf(bidderAt(b).kind != 1, 4);
            isOpen(lot);
            refuseIf(lot.standing() != null, 8);
            lot.book.add(new Entry(b, lot.price));
            return lot.price;
        });
    }

    private Entry entry(int l, int i) {
        Lot lot = lotAt(l);
        refuseIf(lot.book == null, 6);
        refuseIf(lot.kind == 4 && lot.state == 1 && !lot.opened, 7);
        refuseIf(i < 0 || i >= lot.book.size(), 3);
        return lot.book.get(i);
    }

    long bidderAt(int l, int i) {
        return act(() -> entry(l, i).bidder());
    }

    long sumAt(int l, int i) {
        return act(() -> entry(l, i).sum());
    }

    long hammer(int l) {
        return act(() -> {
            Lot lot = lotAt(l);
            isOpen(lot);
            refuseIf(lot.joined != null, 8);
            if (soldOf(lot)) return sale(lot);
            lot.state = 3;
            return 0;
        });
    }

    long join(int w, int a, int b) {
        return act(() -> {
            List<Integer> three = List.of(w, a, b);
            for (int l : three) lotAt(l);
            refuseIf(three.stream().distinct().count() < 3, 13);
            for (int l : three) refuseIf(lotAt(l).kind > 3, 4);
            for (int l : three) refuseIf(lotAt(l).state != 0, 9);
            for (int l : three) refuseIf(lotAt(l).joined != null, 8);
            for (int l : three) lotAt(l).joined = three;
            return 1;
        });
    }

    long settle(int w) {
        return act(() -> {
            Lot whole = lotAt(w);
            refuseIf(whole.joined == null || whole.joined.get(0) != w, 14);
            List<Lot> three = new ArrayList<>();
            for (int l : whole.joined) three.add(lotAt(l));
            for (Lot lot : three) isOpen(lot);
            List<Lot> willing = new ArrayList<>();
            long balance = 0;
            for (Lot lot : three) {
                if (!soldOf(lot)) continue;
                willing.add(lot);
                long brings = lot.standing().sum() * piecesOf(lot);
                balance += lot == whole ? brings : -brings;
            }
            if (willing.contains(whole) && balance > 0) willing.removeIf(lot -> lot != whole);
            else willing.remove(whole);
            long brought = 0;
            for (Lot lot : willing) brought += sale(lot);
            for (Lot lot : three) if (!willing.contains(lot)) lot.state = 3;
            return brought;
        });
    }

    long reoffer(int l, long start) {
        return act(() -> {
            sum(start);
            Lot lot = lotAt(l);
            refuseIf(lot.state != 3, 9);
            refuseIf(lot.kind == 5 && start < lot.reserve, 10);
            if (lot.joined != null) for (int each : lot.joined) lotAt(each).joined = null;
            Lot anew = new Lot();
            anew.kind = lot.kind;
            anew.start = start;
            anew.reserve = lot.reserve;
            anew.cut = lot.cut;
            anew.sellers = lot.sellers;
            all.lots.set(l, anew);
            return 1;
        });
    }

    long pay(int b, long sum) {
        return act(() -> {
            sum(sum);
            Bidder bidder = bidderAt(b);
            refuseIf(bidder.balance + sum > 1_000_000_000_000_000L, 11);
            bidder.balance += sum;
            all.accounts[2] -= sum;
            return sum;
        });
    }

    long payOut(int b, long sum) {
        return act(() -> {
            sum(sum);
            Bidder bidder = bidderAt(b);
            refuseIf(bidder.balance < sum, 10);
            bidder.balance -= sum;
            all.accounts[2] += sum;
            return sum;
        });
    }

    long batch() {
        return act(() -> {
            refuseIf(kept.size() == 8, 12);
            kept.add(all.copy());
            return kept.size();
        });
    }

    long end() {
        return act(() -> {
            refuseIf(kept.isEmpty(), 14);
            kept.remove(kept.size() - 1);
            return kept.size();
        });
    }

    long undo() {
        return act(() -> {
            refuseIf(kept.isEmpty(), 14);
            all = kept.remove(kept.size() - 1);
            return kept.size();
        });
    }

    long digest() {
        List<Long> over = new ArrayList<>();
        over.add((long) all.bidders.size());
        for (Bidder b : all.bidders) {
            over.add((long) b.kind);
            over.add(b.balance);
        }
        over.add((long) all.lots.size());
        for (Lot l : all.lots) {
            Entry stands = l.standing();
            over.add((long) l.kind);
            over.add((long) l.state);
            over.add(stands == null ? -1 : (long) stands.bidder());
            over.add(stands == null ? 0 : stands.sum());
            over.add(l.book == null ? -1 : (long) l.book.size());
            over.add((long) l.sellers.size());
            over.add((long) l.limits.size());
        }
        for (long account : all.accounts) over.add(account);
        over.add((long) all.steps.size());
        over.add((long) all.brackets.size());
        long d = 7;
        for (long x : over) d = d * 31 + x;
        return d;
    }
}
