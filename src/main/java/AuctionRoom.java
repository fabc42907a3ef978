import java.util.Arrays;

/**
 * An auction room: lots are called, bid for, raised on paper, opened, ticked down, and sold or
 * passed; every cent is booked so that all accounts sum to nought; several acts may be one.
 *
 * Every act looks at all its reasons before it changes anything, so a refused act leaves nothing
 * behind; what a batch may have to take back goes through Cells, and by them into the Journal.
 */
public final class AuctionRoom {
    private static final long MOST_MONEY = 1_000_000_000_000L;
    private static final long MOST_BALANCE = 1_000_000_000_000_000L;
    private static final int WHOLE_RATE = 10_000;
    private static final int MOST_BIDDERS = 200;
    private static final int MOST_LOTS = 400;
    private static final int MOST_SELLERS = 4;
    private static final int MOST_TABLE_ROWS = 20;
    private static final int MOST_LIMITS = 40;
    private static final int MOST_ENTRIES = 300;
    private static final int MOST_BATCHES = 8;
    private static final int MOST_TRACED = 200;

    // Far above what 512 calls can change; it only keeps a longer life from growing without end.
    private static final int MOST_NOTES = 65_536;
    private static final int MOST_CELLS = 4_096;

    private static final int BAD_NUMBER = 1;
    private static final int NOT_MADE = 2;
    private static final int BEYOND = 3;
    private static final int WRONG_KIND = 4;
    private static final int NO_SELLER = 5;
    private static final int NO_BOOK = 6;
    private static final int SEALED_YET = 7;
    private static final int ALREADY = 8;
    private static final int WRONG_STATE = 9;
    private static final int TOO_LITTLE = 10;
    private static final int TOO_MUCH = 11;
    private static final int FULL = 12;
    private static final int SAME = 13;
    private static final int NOTHING_THERE = 14;

    private static final int ROOM = 1;
    private static final int PAPER = 2;
    private static final int AGENT = 3;
    private static final int HOUSE = 4;

    private static final int SINGLE = 1;
    private static final int PAIR = 2;
    private static final int DOZEN = 3;
    private static final int SEALED = 4;
    private static final int FALLING = 5;

    private static final int NEW = 0;
    private static final int CALLED = 1;
    private static final int SOLD = 2;
    private static final int PASSED = 3;

    private static final int NONE = -1;

    // Columns of a book and of limits.
    private static final int WHO = 0;
    private static final int AMOUNT = 1;
    private static final int NUMBER = 2;

    // Places in the room's own cells.
    private static final int BIDDERS_MADE = 0;
    private static final int LOTS_MADE = 1;
    private static final int HOUSE_HAS = 2;
    private static final int TAXES_HAVE = 3;
    private static final int TILL_HAS = 4;
    private static final int TAX_OF_KIND = 5;
    private static final int ROOM_CELLS = TAX_OF_KIND + FALLING + 1;

    private final Journal journal;
    private final Cells facts;
    private final Table steps;
    private final Table brackets;
    private final Bodies bodies;
    private final Bidder[] bidders;
    private final Lot[] lots;
    private int bidNumbers;
    private int acts;
    private int reason;

    public AuctionRoom() {
        journal = new Journal();
        facts = new Cells(journal, ROOM_CELLS);
        steps = new Table(journal);
        brackets = new Table(journal);
        bodies = new Bodies(steps);
        bidders = new Bidder[MOST_BIDDERS];
        lots = new Lot[MOST_LOTS];
    }

    // ---- bidders, lots, tables

    public long bidder(int kind, long purse) {
        startAct();
        if (kind < ROOM || kind > HOUSE) return refuse(BAD_NUMBER);
        if (kind == AGENT && !isMoney(purse)) return refuse(BAD_NUMBER);
        int number = biddersMade();
        if (number < 0 || number >= bidders.length) return refuse(FULL);
        bidders[number] = new Bidder(journal, kind, number, purse);
        facts.put(BIDDERS_MADE, number + 1);
        return number;
    }

    public long lot(int kind, long start, long reserve) {
        startAct();
        if (kind < SINGLE || kind > FALLING) return refuse(BAD_NUMBER);
        if (!isSum(start) || !isMoney(reserve)) return refuse(BAD_NUMBER);
        if (kind == FALLING && reserve > start) return refuse(BAD_NUMBER);
        int number = lotsMade();
        if (number < 0 || number >= lots.length) return refuse(FULL);
        lots[number] = new Lot(journal, kind, start, reserve);
        facts.put(LOTS_MADE, number + 1);
        return number;
    }

    public long seller(int l, int b) {
        startAct();
        Lot lot = lotAt(l);
        if (lot == null) return refuse(whyNoLot(l));
        if (bidderWith(b) == null) return refuse(whyNoBidder(b));
        if (lot.stateNow() != NEW) return refuse(WRONG_STATE);
        if (lot.sellers.rowOf(b) != NONE) return refuse(ALREADY);
        if (lot.sellers.rows() >= MOST_SELLERS) return refuse(FULL);
        lot.sellers.put(lot.sellers.addRow(), WHO, b);
        return lot.sellers.rows();
    }

    public long cut(int l, int rate) {
        startAct();
        if (!isRate(rate)) return refuse(BAD_NUMBER);
        Lot lot = lotAt(l);
        if (lot == null) return refuse(whyNoLot(l));
        if (lot.stateNow() != NEW) return refuse(WRONG_STATE);
        long was = lot.facts.get(Lot.CUT);
        lot.facts.put(Lot.CUT, rate);
        return was;
    }

    public long step(long from, long by) {
        startAct();
        if (!isMoney(from) || !isSum(by)) return refuse(BAD_NUMBER);
        return addTableRow(steps, from, by);
    }

    public long premium(long from, int rate) {
        startAct();
        if (!isMoney(from) || !isRate(rate)) return refuse(BAD_NUMBER);
        return addTableRow(brackets, from, rate);
    }

    public long tax(int kind, int rate) {
        startAct();
        if (kind < SINGLE || kind > FALLING || !isRate(rate)) return refuse(BAD_NUMBER);
        long was = facts.get(TAX_OF_KIND + kind);
        facts.put(TAX_OF_KIND + kind, rate);
        return was;
    }

    // ---- bids

    public long call(int l) {
        startAct();
        Lot lot = lotAt(l);
        if (lot == null) return refuse(whyNoLot(l));
        if (lot.stateNow() != NEW) return refuse(WRONG_STATE);
        lot.facts.put(Lot.STATE, CALLED);
        if (lot.kind == FALLING) lot.facts.put(Lot.PRICE, lot.startNow());
        askPapers(lot);
        return lot.book.rows();
    }

    public long bid(int l, int b, long sum) {
        startAct();
        if (!isSum(sum)) return refuse(BAD_NUMBER);
        Lot lot = lotAt(l);
        if (lot == null) return refuse(whyNoLot(l));
        if (lot.kind == FALLING) return refuse(WRONG_KIND);
        Bidder bidder = bidderWith(b);
        if (bidder == null) return refuse(whyNoBidder(b));
        if (bidder.isPaper()) return refuse(WRONG_KIND);
        if (!lot.isOpen()) return refuse(lot.whyNotOpen());
        if (lot.wasOpened()) return refuse(ALREADY);
        if (lot.hasBidderAlready(b)) return refuse(SAME);
        if (sum < bodies.askFor(lot)) return refuse(TOO_LITTLE);
        if (!bodies.mayBid(bidder, lot, sum, lots, lotsMade())) return refuse(TOO_MUCH);
        // One entry must be left for what the papers may answer.
        if (lot.book.rows() >= MOST_ENTRIES - 1) return refuse(FULL);
        bidNumbers++;
        lot.enterBid(b, sum, bidNumbers);
        askPapers(lot);
        return bidNumbers;
    }

    public long limit(int l, int b, long sum) {
        startAct();
        if (!isSum(sum)) return refuse(BAD_NUMBER);
        Lot lot = lotAt(l);
        if (lot == null) return refuse(whyNoLot(l));
        if (!lot.isRaised()) return refuse(WRONG_KIND);
        Bidder bidder = bidderWith(b);
        if (bidder == null) return refuse(whyNoBidder(b));
        if (!bidder.isPaper()) return refuse(WRONG_KIND);
        if (!lot.isNewOrCalled()) return refuse(WRONG_STATE);
        if (lot.limits.rowOf(b) != NONE) return refuse(SAME);
        if (!bodies.mayBid(bidder, lot, sum, lots, lotsMade())) return refuse(TOO_MUCH);
        if (lot.limits.rows() >= MOST_LIMITS || lot.book.rows() >= MOST_ENTRIES) return refuse(FULL);
        bidNumbers++;
        lot.writeLimit(b, sum, bidNumbers);
        if (lot.stateNow() == CALLED) askPapers(lot);
        return bidNumbers;
    }

    public long ask(int l) {
        startAct();
        Lot lot = lotAt(l);
        if (lot == null) return refuse(whyNoLot(l));
        if (!lot.isOpen()) return refuse(lot.whyNotOpen());
        return bodies.askFor(lot);
    }

    public long open(int l) {
        startAct();
        Lot lot = lotAt(l);
        if (lot == null) return refuse(whyNoLot(l));
        if (lot.kind != SEALED) return refuse(WRONG_KIND);
        if (!lot.isOpen()) return refuse(lot.whyNotOpen());
        if (lot.wasOpened()) return refuse(ALREADY);
        if (lot.book.rows() == 0) return refuse(NOTHING_THERE);
        lot.tellWinner();
        return lot.standingSum();
    }

    public long tick(int l, long by) {
        startAct();
        if (!isSum(by)) return refuse(BAD_NUMBER);
        Lot lot = lotAt(l);
        if (lot == null) return refuse(whyNoLot(l));
        if (lot.kind != FALLING) return refuse(WRONG_KIND);
        if (!lot.isOpen()) return refuse(lot.whyNotOpen());
        if (lot.standingBidder() != NONE) return refuse(ALREADY);
        long floor = Math.max(lot.reserve, 1);
        long price = lot.facts.get(Lot.PRICE);
        if (price <= floor) return refuse(TOO_LITTLE);
        lot.facts.put(Lot.PRICE, Math.max(price - by, floor));
        return lot.facts.get(Lot.PRICE);
    }

    public long take(int l, int b) {
        startAct();
        Lot lot = lotAt(l);
        if (lot == null) return refuse(whyNoLot(l));
        if (lot.kind != FALLING) return refuse(WRONG_KIND);
        Bidder bidder = bidderWith(b);
        if (bidder == null) return refuse(whyNoBidder(b));
        if (bidder.kind != ROOM) return refuse(WRONG_KIND);
        if (!lot.isOpen()) return refuse(lot.whyNotOpen());
        if (lot.standingBidder() != NONE) return refuse(ALREADY);
        lot.enter(b, lot.facts.get(Lot.PRICE));
        return lot.facts.get(Lot.PRICE);
    }

    public long bidderAt(int l, int i) {
        return readEntry(l, i, WHO);
    }

    public long sumAt(int l, int i) {
        return readEntry(l, i, AMOUNT);
    }

    // ---- ends

    public long hammer(int l) {
        startAct();
        Lot lot = lotAt(l);
        if (lot == null) return refuse(whyNoLot(l));
        if (!lot.isOpen()) return refuse(lot.whyNotOpen());
        if (lot.isJoined()) return refuse(ALREADY);
        long brings = bodies.bringsIfSold(lot);
        if (brings > 0 && lot.sellers.rows() == 0) return refuse(NO_SELLER);
        finish(lot, brings);
        return brings;
    }

    public long join(int w, int a, int b) {
        startAct();
        Lot whole = lotAt(w);
        if (whole == null) return refuse(whyNoLot(w));
        Lot first = lotAt(a);
        if (first == null) return refuse(whyNoLot(a));
        Lot second = lotAt(b);
        if (second == null) return refuse(whyNoLot(b));
        if (w == a || w == b || a == b) return refuse(SAME);
        if (!whole.isRaised() || !first.isRaised() || !second.isRaised()) {
            return refuse(WRONG_KIND);
        }
        if (whole.stateNow() != NEW || first.stateNow() != NEW || second.stateNow() != NEW) {
            return refuse(WRONG_STATE);
        }
        if (whole.isJoined() || first.isJoined() || second.isJoined()) return refuse(ALREADY);
        whole.facts.put(Lot.WHOLE, w);
        whole.facts.put(Lot.FIRST_PART, a);
        whole.facts.put(Lot.SECOND_PART, b);
        first.facts.put(Lot.WHOLE, w);
        second.facts.put(Lot.WHOLE, w);
        return 1;
    }

    public long settle(int w) {
        startAct();
        Lot whole = lotAt(w);
        if (whole == null) return refuse(whyNoLot(w));
        Lot first = lotAt(whole.partNumber(Lot.FIRST_PART, w));
        Lot second = lotAt(whole.partNumber(Lot.SECOND_PART, w));
        if (first == null || second == null) return refuse(NOTHING_THERE);
        if (!whole.isOpen()) return refuse(whole.whyNotOpen());
        if (!first.isOpen()) return refuse(first.whyNotOpen());
        if (!second.isOpen()) return refuse(second.whyNotOpen());
        long forWhole = bodies.bringsIfSold(whole);
        long forFirst = bodies.bringsIfSold(first);
        long forSecond = bodies.bringsIfSold(second);
        if (forWhole > forFirst + forSecond) {
            forFirst = 0;
            forSecond = 0;
        } else {
            forWhole = 0;
        }
        if (lacksSeller(whole, forWhole) || lacksSeller(first, forFirst)
                || lacksSeller(second, forSecond)) {
            return refuse(NO_SELLER);
        }
        finish(whole, forWhole);
        finish(first, forFirst);
        finish(second, forSecond);
        return forWhole + forFirst + forSecond;
    }

    public long reoffer(int l, long start) {
        startAct();
        if (!isSum(start)) return refuse(BAD_NUMBER);
        Lot lot = lotAt(l);
        if (lot == null) return refuse(whyNoLot(l));
        if (lot.stateNow() != PASSED) return refuse(WRONG_STATE);
        if (lot.kind == FALLING && start < lot.reserve) return refuse(TOO_LITTLE);
        part(lotAt((int) lot.facts.get(Lot.WHOLE)));
        lot.renew(start);
        return 1;
    }

    // ---- money

    public long pay(int b, long sum) {
        startAct();
        if (!isSum(sum)) return refuse(BAD_NUMBER);
        Bidder bidder = bidderWith(b);
        if (bidder == null) return refuse(whyNoBidder(b));
        if (bidder.balanceNow() + sum > MOST_BALANCE) return refuse(TOO_MUCH);
        bidder.add(sum);
        bookTo(TILL_HAS, -sum);
        return sum;
    }

    public long payOut(int b, long sum) {
        startAct();
        if (!isSum(sum)) return refuse(BAD_NUMBER);
        Bidder bidder = bidderWith(b);
        if (bidder == null) return refuse(whyNoBidder(b));
        if (bidder.balanceNow() < sum) return refuse(TOO_LITTLE);
        bidder.add(-sum);
        bookTo(TILL_HAS, sum);
        return sum;
    }

    // ---- batches

    public long batch() {
        startAct();
        if (journal.depth() >= MOST_BATCHES) return refuse(FULL);
        journal.openBatch();
        return journal.depth();
    }

    public long end() {
        startAct();
        if (journal.depth() == 0) return refuse(NOTHING_THERE);
        journal.keepBatch();
        return journal.depth();
    }

    public long undo() {
        startAct();
        if (journal.depth() == 0) return refuse(NOTHING_THERE);
        journal.takeBackBatch();
        return journal.depth();
    }

    // ---- questions: these are no acts

    public int kindOf(int l) {
        Lot lot = lotAt(l);
        return lot == null ? 0 : lot.kind;
    }

    public int bidderKind(int b) {
        Bidder bidder = bidderWith(b);
        return bidder == null ? 0 : bidder.kind;
    }

    public int state(int l) {
        Lot lot = lotAt(l);
        return lot == null ? NONE : lot.stateNow();
    }

    public int stands(int l) {
        Lot lot = lotAt(l);
        return lot == null ? NONE : lot.standingBidder();
    }

    public long sum(int l) {
        Lot lot = lotAt(l);
        return lot == null ? 0 : lot.standingSum();
    }

    public int entries(int l) {
        Lot lot = lotAt(l);
        return lot == null || !lot.hasBook() ? NONE : lot.book.rows();
    }

    public int cause(int l, int what) {
        Lot lot = lotAt(l);
        if (lot == null) return 0;
        if (what == 0) return (int) lot.facts.get(Lot.FIRST_RIVAL);
        if (what == 1) return (int) lot.facts.get(Lot.SECOND_RIVAL);
        return 0;
    }

    public long balance(int b) {
        Bidder bidder = bidderWith(b);
        return bidder == null ? 0 : bidder.balanceNow();
    }

    public long account(int what) {
        return what < 0 || what > 2 ? 0 : facts.get(HOUSE_HAS + what);
    }

    public long total() {
        long all = facts.get(HOUSE_HAS) + facts.get(TAXES_HAVE) + facts.get(TILL_HAS);
        int made = biddersMade();
        for (int b = 0; b < made; b++) all += balance(b);
        return all;
    }

    public int numbers(int what) {
        return what == 0 || what == 1 ? bidNumbers : 0;
    }

    public int tries() {
        return acts;
    }

    public int why() {
        return reason;
    }

    public int trace(int i) {
        return bodies.ranAt(i);
    }

    public int batches() {
        return journal.depth();
    }

    public long digest() {
        long d = 7;
        int made = biddersMade();
        d = d * 31 + made;
        for (int b = 0; b < made; b++) {
            d = d * 31 + bidderKind(b);
            d = d * 31 + balance(b);
        }
        made = lotsMade();
        d = d * 31 + made;
        for (int l = 0; l < made; l++) d = digestLot(d, l);
        d = d * 31 + account(0);
        d = d * 31 + account(1);
        d = d * 31 + account(2);
        d = d * 31 + steps.rows();
        return d * 31 + brackets.rows();
    }

    private long digestLot(long before, int l) {
        Lot lot = lotAt(l);
        if (lot == null) return before;
        long d = before * 31 + lot.kind;
        d = d * 31 + lot.stateNow();
        d = d * 31 + lot.standingBidder();
        d = d * 31 + lot.standingSum();
        d = d * 31 + entries(l);
        d = d * 31 + lot.sellers.rows();
        return d * 31 + lot.limits.rows();
    }

    // ---- what the acts share

    private void startAct() {
        acts++;
        reason = 0;
        bodies.forgetTrace();
    }

    private long refuse(int why) {
        reason = why;
        journal.takeBackAll();
        return -why;
    }

    private int biddersMade() {
        return (int) facts.get(BIDDERS_MADE);
    }

    private int lotsMade() {
        return (int) facts.get(LOTS_MADE);
    }

    // A lot that was taken back may still lie in the array: only the count tells what is made.
    private Lot lotAt(int l) {
        return l < 0 || l >= lotsMade() || l >= lots.length ? null : lots[l];
    }

    private Bidder bidderWith(int b) {
        return b < 0 || b >= biddersMade() || b >= bidders.length ? null : bidders[b];
    }

    private static int whyNoLot(int l) {
        return l < 0 || l >= MOST_LOTS ? BEYOND : NOT_MADE;
    }

    private static int whyNoBidder(int b) {
        return b < 0 || b >= MOST_BIDDERS ? BEYOND : NOT_MADE;
    }

    private static boolean isSum(long x) {
        return x >= 1 && x <= MOST_MONEY;
    }

    private static boolean isMoney(long x) {
        return x >= 0 && x <= MOST_MONEY;
    }

    private static boolean isRate(int x) {
        return x >= 0 && x <= WHOLE_RATE;
    }

    /** Cents out of cents times a rate, to the nearest, of two as near the even one. */
    private static long evenCents(long timesRate) {
        long cents = timesRate / WHOLE_RATE;
        long rest = timesRate % WHOLE_RATE;
        boolean up = 2 * rest > WHOLE_RATE || (2 * rest == WHOLE_RATE && cents % 2 != 0);
        return up ? cents + 1 : cents;
    }

    private long addTableRow(Table table, long from, long worth) {
        if (table.rows() >= MOST_TABLE_ROWS) return refuse(FULL);
        if (table.rows() > 0 && from <= table.lastFrom()) return refuse(TOO_LITTLE);
        table.add(from, worth);
        return table.rows();
    }

    private long readEntry(int l, int i, int column) {
        startAct();
        Lot lot = lotAt(l);
        if (lot == null) return refuse(whyNoLot(l));
        if (!lot.hasBook()) return refuse(NO_BOOK);
        if (lot.kind == SEALED && lot.isOpen() && !lot.wasOpened()) return refuse(SEALED_YET);
        if (i < 0 || i >= lot.book.rows()) return refuse(BEYOND);
        return lot.book.at(i, column);
    }

    private void askPapers(Lot lot) {
        if (!lot.isRaised()) return;
        int first = lot.greatestRival(NONE);
        int second = first == NONE ? NONE : lot.greatestRival(first);
        lot.facts.put(Lot.FIRST_RIVAL, lot.rivalNumber(first));
        lot.facts.put(Lot.SECOND_RIVAL, lot.rivalNumber(second));
        if (first == NONE || !lot.isLimit(first)) return;
        long enough = second == NONE ? lot.startNow() : steps.after(lot.rivalSum(second));
        long sum = Math.min(lot.rivalSum(first), Math.max(lot.reserve, enough));
        int bidder = (int) lot.limits.at(first, WHO);
        // A step written since may ask less than before; he stands at no less for that.
        if (lot.standingBidder() != bidder || lot.standingSum() < sum) lot.enter(bidder, sum);
    }

    /** Whether a lot that is to be sold has nobody to share it; its SALE asks PIECES first. */
    private boolean lacksSeller(Lot lot, long brings) {
        if (brings == 0) return false;
        bodies.piecesOf(lot);
        return lot.sellers.rows() == 0;
    }

    /** Sells a lot to the bidder that stands, for what it brings; it passes if that is nought. */
    private void finish(Lot lot, long brings) {
        lot.facts.put(Lot.STATE, brings > 0 ? SOLD : PASSED);
        if (brings <= 0) return;
        long premium = evenCents(brackets.premiumTimesRate(brings));
        long tax = evenCents((brings + premium) * facts.get(TAX_OF_KIND + lot.kind));
        long cut = evenCents(brings * lot.facts.get(Lot.CUT));
        bookToBidder(lot.standingBidder(), -(brings + premium + tax));
        bookTo(HOUSE_HAS, premium + cut);
        bookTo(TAXES_HAVE, tax);
        shareOut(lot.sellers, brings - cut);
    }

    private void shareOut(Sheet sellers, long sum) {
        int n = sellers.rows();
        if (n <= 0) return;
        long each = sum / n;
        long rest = sum % n;
        for (int i = 0; i < n; i++) {
            bookToBidder((int) sellers.at(i, WHO), i < rest ? each + 1 : each);
        }
    }

    private void bookToBidder(int b, long sum) {
        Bidder bidder = bidderWith(b);
        if (bidder != null) bidder.add(sum);
    }

    private void bookTo(int place, long sum) {
        facts.put(place, facts.get(place) + sum);
    }

    private void part(Lot whole) {
        if (whole == null) return;
        Lot first = lotAt((int) whole.facts.get(Lot.FIRST_PART));
        Lot second = lotAt((int) whole.facts.get(Lot.SECOND_PART));
        whole.facts.put(Lot.WHOLE, NONE);
        if (first != null) first.facts.put(Lot.WHOLE, NONE);
        if (second != null) second.facts.put(Lot.WHOLE, NONE);
    }

    /** Notes what cells held before they changed, while a batch is open that may take it back. */
    private static final class Journal {
        private Cells[] whose = new Cells[64];
        private int[] where = new int[64];
        private long[] before = new long[64];
        private int length;
        private final int[] marks = new int[MOST_BATCHES];
        private int depth;

        int depth() {
            return depth;
        }

        void note(Cells cells, int place, long value) {
            if (depth == 0 || length >= MOST_NOTES) return;
            if (length >= whose.length) {
                Cells[] wider = new Cells[2 * length];
                System.arraycopy(whose, 0, wider, 0, length);
                whose = wider;
                where = Arrays.copyOf(where, 2 * length);
                before = Arrays.copyOf(before, 2 * length);
            }
            whose[length] = cells;
            where[length] = place;
            before[length] = value;
            length++;
        }

        void openBatch() {
            if (depth >= marks.length) return;
            marks[depth] = length;
            depth++;
        }

        void keepBatch() {
            if (depth > 0) depth--;
            // With none around it nothing can ask for these notes any more.
            if (depth == 0) length = 0;
        }

        void takeBackBatch() {
            takeBackTo(depth - 1);
        }

        void takeBackAll() {
            takeBackTo(0);
        }

        private void takeBackTo(int batch) {
            if (batch < 0 || batch >= depth) return;
            int mark = marks[batch];
            for (int i = length - 1; i >= mark; i--) {
                Cells cells = whose[i];
                if (cells != null) cells.set(where[i], before[i]);
            }
            length = mark;
            depth = batch;
        }
    }

    /** Numbers whose changes can be taken back. */
    private static final class Cells {
        private final Journal journal;
        private long[] values;

        Cells(Journal journal, int size) {
            this.journal = journal;
            this.values = new long[Math.max(size, 1)];
        }

        long get(int place) {
            return place < 0 || place >= values.length ? 0 : values[place];
        }

        void put(int place, long value) {
            if (place < 0 || place >= MOST_CELLS) return;
            if (place >= values.length) {
                values = Arrays.copyOf(values, Math.max(place + 1, 2 * values.length));
            }
            journal.note(this, place, values[place]);
            values[place] = value;
        }

        /** Without a note: for what is just being made, and for what is taken back. */
        void set(int place, long value) {
            if (place >= 0 && place < values.length) values[place] = value;
        }
    }

    /** Rows of numbers, one behind the other; place 0 of the cells counts them. */
    private static final class Sheet {
        private final Cells cells;
        private final int width;

        Sheet(Journal journal, int width) {
            this.cells = new Cells(journal, 1 + 2 * width);
            this.width = width;
        }

        int rows() {
            return (int) cells.get(0);
        }

        long at(int row, int column) {
            return cells.get(1 + row * width + column);
        }

        int addRow() {
            int row = rows();
            cells.put(0, row + 1);
            return row;
        }

        void put(int row, int column, long value) {
            cells.put(1 + row * width + column, value);
        }

        void clear() {
            cells.put(0, 0);
        }

        /** The first row of a bidder. */
        int rowOf(int bidder) {
            int rows = rows();
            for (int row = 0; row < rows; row++) {
                if (at(row, WHO) == bidder) return row;
            }
            return NONE;
        }
    }

    /** STEPS or BRACKETS: what is worth how much, from which sum on. */
    private static final class Table {
        private static final int FROM = 0;
        private static final int WORTH = 1;
        private final Sheet sheet;

        Table(Journal journal) {
            sheet = new Sheet(journal, 2);
        }

        int rows() {
            return sheet.rows();
        }

        long lastFrom() {
            return sheet.at(sheet.rows() - 1, FROM);
        }

        void add(long from, long worth) {
            int row = sheet.addRow();
            sheet.put(row, FROM, from);
            sheet.put(row, WORTH, worth);
        }

        long after(long sum) {
            long by = 1;
            int rows = sheet.rows();
            for (int row = 0; row < rows && sheet.at(row, FROM) <= sum; row++) {
                by = sheet.at(row, WORTH);
            }
            return sum + by;
        }

        /** PREMIUM before it is divided: it is made even once, over all rows. */
        long premiumTimesRate(long sum) {
            long all = 0;
            int rows = sheet.rows();
            for (int row = 0; row < rows && sheet.at(row, FROM) < sum; row++) {
                long top = row + 1 < rows ? Math.min(sum, sheet.at(row + 1, FROM)) : sum;
                all += (top - sheet.at(row, FROM)) * sheet.at(row, WORTH);
            }
            return all;
        }
    }

    private static final class Bidder {
        private final int kind;
        private final int number;
        private final long purse;
        private final Cells facts;

        Bidder(Journal journal, int kind, int number, long purse) {
            this.kind = kind;
            this.number = number;
            this.purse = purse;
            this.facts = new Cells(journal, 1);
        }

        boolean isPaper() {
            return kind == PAPER || kind == AGENT;
        }

        long balanceNow() {
            return facts.get(0);
        }

        void add(long sum) {
            facts.put(0, facts.get(0) + sum);
        }
    }

    private static final class Lot {
        private static final int START = 0;
        private static final int CUT = 1;
        private static final int STATE = 2;
        private static final int PRICE = 3;
        private static final int OPENED = 4;
        private static final int WINNER = 5;
        private static final int WINNING_SUM = 6;
        private static final int LATEST_BID = 7;
        private static final int LATEST_NUMBER = 8;
        private static final int FIRST_RIVAL = 9;
        private static final int SECOND_RIVAL = 10;
        // The number of the whole that it is, or is a part of.
        private static final int WHOLE = 11;
        private static final int FIRST_PART = 12;
        private static final int SECOND_PART = 13;
        private static final int LOT_CELLS = 14;

        private final int kind;
        private final long reserve;
        private final Cells facts;
        private final Sheet book;
        private final Sheet limits;
        private final Sheet sellers;

        Lot(Journal journal, int kind, long start, long reserve) {
            this.kind = kind;
            this.reserve = reserve;
            this.facts = new Cells(journal, LOT_CELLS);
            this.book = new Sheet(journal, 2);
            this.limits = new Sheet(journal, 3);
            this.sellers = new Sheet(journal, 1);
            this.facts.set(START, start);
            this.facts.set(WHOLE, NONE);
        }

        long startNow() {
            return facts.get(START);
        }

        int stateNow() {
            return (int) facts.get(STATE);
        }

        boolean hasBook() {
            return stateNow() != NEW;
        }

        boolean isOpen() {
            return stateNow() == CALLED;
        }

        int whyNotOpen() {
            return hasBook() ? WRONG_STATE : NO_BOOK;
        }

        boolean isNewOrCalled() {
            return stateNow() == NEW || stateNow() == CALLED;
        }

        /** A SINGLE, PAIR or DOZEN: bids and papers raise what stands. */
        boolean isRaised() {
            return kind != SEALED && kind != FALLING;
        }

        boolean isJoined() {
            return facts.get(WHOLE) != NONE;
        }

        /** The number of a part, if this lot, whose number is told, is a whole. */
        int partNumber(int which, int number) {
            return facts.get(WHOLE) == number ? (int) facts.get(which) : NONE;
        }

        boolean wasOpened() {
            return facts.get(OPENED) != 0;
        }

        int standingBidder() {
            if (kind == SEALED) return wasOpened() ? (int) facts.get(WINNER) : NONE;
            return book.rows() == 0 ? NONE : (int) book.at(book.rows() - 1, WHO);
        }

        long standingSum() {
            if (kind == SEALED) return wasOpened() ? facts.get(WINNING_SUM) : 0;
            return book.rows() == 0 ? 0 : book.at(book.rows() - 1, AMOUNT);
        }

        boolean hasBidderAlready(int bidder) {
            return kind == SEALED ? book.rowOf(bidder) != NONE : standingBidder() == bidder;
        }

        void enter(int bidder, long sum) {
            int row = book.addRow();
            book.put(row, WHO, bidder);
            book.put(row, AMOUNT, sum);
        }

        void enterBid(int bidder, long sum, int number) {
            enter(bidder, sum);
            facts.put(LATEST_BID, sum);
            facts.put(LATEST_NUMBER, number);
        }

        void writeLimit(int bidder, long sum, int number) {
            int row = limits.addRow();
            limits.put(row, WHO, bidder);
            limits.put(row, AMOUNT, sum);
            limits.put(row, NUMBER, number);
        }

        void tellWinner() {
            int best = 0;
            long second = 0;
            int rows = book.rows();
            for (int row = 1; row < rows; row++) {
                long lesser = book.at(row, AMOUNT);
                if (lesser > book.at(best, AMOUNT)) {
                    lesser = book.at(best, AMOUNT);
                    best = row;
                }
                second = Math.max(second, lesser);
            }
            boolean enough = book.at(best, AMOUNT) >= reserve;
            facts.put(OPENED, 1);
            facts.put(WINNER, enough ? book.at(best, WHO) : NONE);
            facts.put(WINNING_SUM, enough ? Math.max(second, Math.max(reserve, startNow())) : 0);
        }

        // Rivals go by rows: the limits have theirs, and the latest bid is the row behind them.

        boolean isLimit(int rival) {
            return rival < limits.rows();
        }

        boolean isRival(int rival) {
            return isLimit(rival) ? limits.at(rival, AMOUNT) >= startNow() : facts.get(LATEST_NUMBER) != 0;
        }

        long rivalSum(int rival) {
            return isLimit(rival) ? limits.at(rival, AMOUNT) : facts.get(LATEST_BID);
        }

        long rivalNumber(int rival) {
            if (rival == NONE) return 0;
            return isLimit(rival) ? limits.at(rival, NUMBER) : facts.get(LATEST_NUMBER);
        }

        /** The greatest rival but one, of equal ones that with the least number. */
        int greatestRival(int but) {
            int greatest = NONE;
            int last = limits.rows();
            for (int rival = 0; rival <= last; rival++) {
                if (rival == but || !isRival(rival)) continue;
                if (greatest == NONE || goesAhead(rival, greatest)) greatest = rival;
            }
            return greatest;
        }

        private boolean goesAhead(int rival, int other) {
            if (rivalSum(rival) != rivalSum(other)) return rivalSum(rival) > rivalSum(other);
            return rivalNumber(rival) < rivalNumber(other);
        }

        void renew(long start) {
            facts.put(START, start);
            for (int place = STATE; place <= SECOND_RIVAL; place++) facts.put(place, 0);
            book.clear();
            limits.clear();
        }
    }

    /** What lots and bidders answer when they are asked, and the trace of what ran for it. */
    private static final class Bodies {
        private final Table steps;
        private final int[] ran = new int[MOST_TRACED];
        private int count;

        Bodies(Table steps) {
            this.steps = steps;
        }

        void forgetTrace() {
            count = 0;
        }

        int ranAt(int i) {
            return i < 0 || i >= count || i >= ran.length ? 0 : ran[i];
        }

        private void run(int body) {
            if (count < 0 || count >= ran.length) return;
            ran[count] = body;
            count++;
        }

        long askFor(Lot lot) {
            if (lot.kind == FALLING) {
                run(3);
                return lot.facts.get(Lot.PRICE);
            }
            if (lot.kind == SEALED) run(2);
            run(1);
            boolean fromStart = lot.kind == SEALED || lot.standingBidder() == NONE;
            return fromStart ? lot.startNow() : steps.after(lot.standingSum());
        }

        long piecesOf(Lot lot) {
            if (lot.kind == DOZEN) {
                run(6);
                run(5);
                return 12;
            }
            if (lot.kind == PAIR) {
                run(5);
                return 2;
            }
            run(4);
            return 1;
        }

        boolean mayBid(Bidder bidder, Lot lot, long sum, Lot[] lots, int made) {
            if (bidder.kind == HOUSE) {
                run(8);
                return sum < lot.reserve;
            }
            if (bidder.kind == AGENT) {
                run(10);
                run(9);
                long wanted = sum * piecesOf(lot);
                return wanted + written(bidder.number, lots, made) <= bidder.purse;
            }
            run(bidder.kind == PAPER ? 9 : 7);
            return true;
        }

        /** All that a bidder's limits on lots that have not ended may come to. */
        private long written(int bidder, Lot[] lots, int made) {
            long all = 0;
            for (int l = 0; l < made && l < lots.length; l++) {
                Lot lot = lots[l];
                if (lot == null || !lot.isNewOrCalled()) continue;
                int row = lot.limits.rowOf(bidder);
                if (row != NONE) all += lot.limits.at(row, AMOUNT) * piecesOf(lot);
            }
            return all;
        }

        private boolean isSold(Lot lot) {
            boolean stands = lot.standingBidder() != NONE;
            if (lot.kind == FALLING) {
                run(13);
                return stands;
            }
            if (lot.kind == SEALED) run(12);
            run(11);
            return stands && lot.standingSum() >= lot.reserve;
        }

        /** Asks SOLD, and PIECES if it says so; nought if it does not, for no sum is nought. */
        long bringsIfSold(Lot lot) {
            return isSold(lot) ? lot.standingSum() * piecesOf(lot) : 0;
        }
    }
}
