/** Promises 9 to 17: each sentence that names a boundary, and the order of reasons. */
final class BidsEdges {
    private BidsEdges() {
    }

    static void run() {
        callOfANewLot();
        callOfANotNewLot();
        bidFirstReasons();
        bidOfKinds();
        bidStates();
        bidOnAnOpenedLot();
        bidOfHimThatStands();
        bidBelowAsk();
        bidThatHeMayNot();
        bidIntoAFullBook();
        limitFirstReasons();
        limitOfKinds();
        limitStates();
        limitOfHimThatHasWritten();
        limitThatHeMayNot();
        limits40();
        limitIntoAFullBook();
        askReasons();
        openReasons();
        openGreatest();
        openAtLeast();
        openReserve();
        tickFalls();
        tickReasons();
        tickTooLittle();
        takeReasons();
        takeAgain();
        entriesThere();
        entriesReasons();
        entriesSealedYet();
    }

    private static void callOfANewLot() {
        Check.sentence("Promise 9", "A lot is called: it has an empty book;"
            + " a FALLING one's PRICE is its START; papers are asked. Answers how many entries it has then.");
        AuctionRoom x = Check.room();
        for (int kind = 1; kind <= 5; kind++) {
            int l = Check.newLot(x, kind, 10, 0);
            Check.due("call", x.call(l), 0);
            Check.due("book", x.entries(l), 0);
            Check.due("state", x.state(l), 1);
            Check.due("START is asked", x.ask(l), 10);
        }
        int papers = Check.newLot(x, 1, 10, 0);
        x.limit(papers, 2, 10);
        Check.due("call", x.call(papers), 1);
        int falling = Check.passedLot(x, 5, 10, 1);
        x.reoffer(falling, 7);
        x.call(falling);
        Check.due("the PRICE of one that is new again", x.ask(falling), 7);
    }

    private static void callOfANotNewLot() {
        Check.sentence("Promise 9", "Reasons: l is looked up; 9: it is not new.");
        AuctionRoom x = Check.room();
        for (int kind = 1; kind <= 5; kind++) {
            int l = Check.calledLot(x, kind, 10, 0);
            Check.due("called", x.call(l), -9);
            x.hammer(l);
            Check.due("passed", x.call(l), -9);
            x.reoffer(l, 10);
            Check.due("new again", x.call(l), 0);
        }
        Check.due("sold", x.call(Check.soldLot(x, 1, 10)), -9);
    }

    private static void bidFirstReasons() {
        Check.sentence("Promise 10", "Reasons: 1 (no sum); l is looked up; 4: it is FALLING; b is looked up");
        AuctionRoom x = Check.room();
        int falling = Check.newLot(x, 5, 10, 0);
        int l = Check.newLot(x, 1, 10, 0);
        Check.due("1 ahead of 3", x.bid(400, 0, 0), -1);
        Check.due("1 ahead of 2", x.bid(7, 0, Check.SUM + 1), -1);
        Check.due("1 ahead of 4", x.bid(falling, 0, 0), -1);
        Check.due("lot's 3 ahead of bidder's 2", x.bid(400, 6, 1), -3);
        Check.due("lot's 2 ahead of bidder's 3", x.bid(7, 200, 1), -2);
        Check.due("falling ahead of bidder's 3", x.bid(falling, 200, 1), -4);
        Check.due("falling ahead of bidder's 2", x.bid(falling, 6, 1), -4);
        Check.due("bidder's 3 ahead of 6", x.bid(l, -1, 1), -3);
        Check.due("bidder's 2 ahead of 6", x.bid(l, 6, 1), -2);
    }

    private static void bidOfKinds() {
        Check.sentence("Promise 10", "4: he is a PAPER; it is open");
        AuctionRoom x = Check.room();
        int l = Check.newLot(x, 1, 10, 50);
        Check.due("a PAPER, ahead of 6", x.bid(l, 2, 20), -4);
        Check.due("an AGENT, ahead of 6", x.bid(l, 4, 20), -4);
        Check.due("a ROOM: 6", x.bid(l, 0, 20), -6);
        Check.due("a HOUSE: 6", x.bid(l, 5, 20), -6);
        x.call(l);
        Check.due("a PAPER", x.bid(l, 2, 20), -4);
        Check.due("an AGENT", x.bid(l, 4, 20), -4);
        Check.due("a ROOM", x.bid(l, 0, 20), 1);
        Check.due("a HOUSE", x.bid(l, 5, 21), 2);
        x.hammer(l);
        Check.due("a PAPER, ahead of 9", x.bid(l, 2, 20), -4);
    }

    private static void bidStates() {
        Check.sentence("Promise 10", "it is open; 8: a SEALED lot that was opened; 13: he stands");
        AuctionRoom x = Check.room();
        int l = Check.calledLot(x, 1, 10, 50);
        x.bid(l, 0, 20);
        Check.due("called", x.bid(l, 0, 20), -13);
        x.hammer(l);
        Check.due("9 ahead of 13", x.bid(l, 0, 20), -9);
        int opened = Check.calledLot(x, 4, 10, 0);
        x.bid(opened, 0, 20);
        x.open(opened);
        Check.due("8", x.bid(opened, 0, 20), -8);
        x.hammer(opened);
        Check.due("9 ahead of 8", x.bid(opened, 0, 20), -9);
    }

    private static void bidOnAnOpenedLot() {
        Check.sentence("Promise 10", "8: a SEALED lot that was opened");
        AuctionRoom x = Check.room();
        int l = Check.calledLot(x, 4, 10, 50);
        Check.due("not opened", x.bid(l, 0, 20), 1);
        Check.due("not opened", x.bid(l, 1, 20), 2);
        Check.due("nothing stands", x.open(l), 0);
        Check.due("opened, though nothing stands", x.bid(l, 5, 20), -8);
        Check.due("8 ahead of 13", x.bid(l, 0, 20), -8);
        Check.due("8 ahead of 10", x.bid(l, 5, 9), -8);
        Check.trace("ASK is not asked", x);
        Check.due("8 ahead of 11", x.bid(l, 5, 60), -8);
        x.hammer(l);
        x.reoffer(l, 10);
        x.call(l);
        Check.due("new again, it was not opened", x.bid(l, 0, 20), 3);
    }

    private static void bidOfHimThatStands() {
        Check.sentence("Promise 10", "13: he stands (of a SEALED lot: he has an entry)");
        AuctionRoom x = Check.room();
        int l = Check.calledLot(x, 1, 10, 900);
        x.bid(l, 0, 10);
        Check.due("he stands", x.bid(l, 0, 20), -13);
        Check.due("13 ahead of 10", x.bid(l, 0, 1), -13);
        Check.trace("ASK is not asked", x);
        x.bid(l, 1, 11);
        Check.due("he has an entry, but stands no more", x.bid(l, 0, 12), 3);
        x.bid(l, 5, 13);
        Check.due("the HOUSE stands: 13 ahead of 11", x.bid(l, 5, 900), -13);
        int sealed = Check.calledLot(x, 4, 10, 0);
        x.bid(sealed, 0, 10);
        x.bid(sealed, 1, 20);
        Check.due("he has an entry, the first", x.bid(sealed, 0, 30), -13);
        Check.due("he has an entry, the last", x.bid(sealed, 1, 30), -13);
        Check.due("13 ahead of 10", x.bid(sealed, 0, 1), -13);
    }

    private static void bidBelowAsk() {
        Check.sentence("Promise 10", "ASK is asked; 10: sum is below that");
        AuctionRoom x = Check.room();
        x.step(0, 5);
        int l = Check.calledLot(x, 1, 10, 12);
        Check.due("below START", x.bid(l, 0, 9), -10);
        Check.due("10 ahead of 11: MAY is not asked", x.bid(l, 5, 9), -10);
        Check.trace("MAY is not asked", x, 1);
        Check.due("at START", x.bid(l, 0, 10), 1);
        Check.due("below AFTER", x.bid(l, 1, 14), -10);
        Check.due("at AFTER", x.bid(l, 1, 15), 2);
        Check.due("the HOUSE, below AFTER and above RESERVE", x.bid(l, 5, 19), -10);
        int sealed = Check.calledLot(x, 4, 10, 0);
        Check.due("sealed, below START", x.bid(sealed, 0, 9), -10);
        Check.due("sealed, above START", x.bid(sealed, 0, 11), 3);
        Check.due("sealed, at START", x.bid(sealed, 1, 10), 4);
        int most = Check.calledLot(x, 1, Check.SUM, 0);
        Check.due("the greatest sum", x.bid(most, 0, Check.SUM), 5);
        Check.due("none is left", x.bid(most, 1, Check.SUM), -10);
    }

    private static void bidThatHeMayNot() {
        Check.sentence("Promise 10", "MAY is asked; 11: he may not");
        AuctionRoom x = Check.room();
        int l = Check.calledLot(x, 1, 10, 20);
        Check.due("the HOUSE at RESERVE", x.bid(l, 5, 20), -11);
        Check.trace("the HOUSE at RESERVE", x, 1, 8);
        Check.due("nothing stands", x.entries(l), 0);
        Check.due("the HOUSE below RESERVE", x.bid(l, 5, 19), 1);
        Check.trace("the HOUSE below RESERVE", x, 1, 8);
        Check.due("it stands", x.stands(l), 5);
    }

    /** A called lot whose book has so many entries, each a bid, the latest of bidder 0. */
    private static int lotOfEntries(AuctionRoom x, int entries, long reserve) {
        int l = Check.calledLot(x, 1, 1, reserve);
        for (int i = 1; i <= entries; i++) x.bid(l, (entries - i) % 2, i);
        Check.due("entries", x.entries(l), entries);
        return l;
    }

    private static void bidIntoAFullBook() {
        Check.sentence("Promise 10", "12: its book has 299 entries or more.");
        AuctionRoom x = Check.room();
        int l = lotOfEntries(x, 298, 500);
        x.batch();
        Check.due("298 entries", x.bid(l, 1, 299), 299);
        x.undo();
        Check.due("298 entries again", x.bid(l, 1, 299), 300);
        Check.due("299 entries", x.bid(l, 0, 300), -12);
        Check.trace("behind ASK and MAY", x, 1, 7);
        Check.due("13 ahead of 12", x.bid(l, 1, 300), -13);
        Check.due("10 ahead of 12", x.bid(l, 0, 299), -10);
        Check.due("11 ahead of 12", x.bid(l, 5, 500), -11);
        Check.due("nothing was entered", x.entries(l), 299);
        Check.due("no number was taken", x.numbers(0), 300);
        Check.due("the last entry", x.sumAt(l, 298), 299);
        Check.due("a limit makes the 300th", x.limit(l, 2, 400), 301);
        Check.due("300 entries", x.entries(l), 300);
        Check.due("300 entries: no bid", x.bid(l, 0, 499), -12);
    }

    private static void limitFirstReasons() {
        Check.sentence("Promise 11",
            "Reasons: 1 (no sum); l is looked up; 4: it is SEALED or FALLING; b is looked up as a PAPER");
        AuctionRoom x = Check.room();
        int sealed = Check.newLot(x, 4, 10, 0);
        int falling = Check.newLot(x, 5, 10, 0);
        int ended = Check.passedLot(x, 1, 10, 0);
        Check.due("1 ahead of 3", x.limit(-1, 2, 0), -1);
        Check.due("1 ahead of 2", x.limit(3, 2, Check.SUM + 1), -1);
        Check.due("1 ahead of 4", x.limit(sealed, 2, 0), -1);
        Check.due("lot's 3 ahead of bidder's 2", x.limit(400, 6, 1), -3);
        Check.due("lot's 2 ahead of bidder's 3", x.limit(3, 200, 1), -2);
        Check.due("sealed ahead of bidder's 3", x.limit(sealed, 200, 1), -4);
        Check.due("falling ahead of bidder's 2", x.limit(falling, 6, 1), -4);
        Check.due("bidder's 3 ahead of 9", x.limit(ended, 200, 1), -3);
        Check.due("bidder's 2 ahead of 9", x.limit(ended, 6, 1), -2);
        Check.due("bidder's 4 ahead of 9", x.limit(ended, 0, 1), -4);
        Check.due("9", x.limit(ended, 2, 1), -9);
    }

    private static void limitOfKinds() {
        Check.sentence("Promise 11", "4: it is SEALED or FALLING; b is looked up as a PAPER");
        for (int kind = 1; kind <= 5; kind++) {
            AuctionRoom x = Check.room();
            int l = Check.newLot(x, kind, 10, 0);
            Check.due("a PAPER's on kind " + kind, x.limit(l, 2, 10), kind <= 3 ? 1 : -4);
            Check.due("an AGENT's on kind " + kind, x.limit(l, 4, 10), kind <= 3 ? 2 : -4);
            Check.due("a ROOM's", x.limit(l, 0, 10), -4);
            Check.due("a HOUSE's", x.limit(l, 5, 10), -4);
            x.call(l);
            Check.due("called, on kind " + kind, x.limit(l, 3, 10), kind <= 3 ? 3 : -4);
        }
    }

    private static void limitStates() {
        Check.sentence("Promise 11", "9: it is neither new nor called");
        AuctionRoom x = Check.room();
        int l = Check.newLot(x, 1, 10, 100);
        Check.due("new", x.limit(l, 2, 10), 1);
        x.call(l);
        Check.due("called", x.limit(l, 3, 10), 2);
        x.hammer(l);
        Check.due("passed", x.limit(l, 4, 10), -9);
        Check.due("9 ahead of 13", x.limit(l, 2, 10), -9);
        Check.due("9 ahead of 11: MAY is not asked", x.limit(l, 4, 1001), -9);
        Check.trace("MAY is not asked", x);
        Check.due("sold", x.limit(Check.soldLot(x, 1, 10), 2, 10), -9);
        x.reoffer(l, 10);
        Check.due("new again", x.limit(l, 4, 10), 4);
    }

    private static void limitOfHimThatHasWritten() {
        Check.sentence("Promise 11", "13: he has written on it");
        AuctionRoom x = Check.room();
        int l = Check.newLot(x, 1, 10, 0);
        Check.due("limit", x.limit(l, 2, 10), 1);
        Check.due("again", x.limit(l, 2, 20), -13);
        Check.due("another one", x.limit(l, 4, 10), 2);
        Check.due("the first again", x.limit(l, 2, 20), -13);
        Check.due("13 ahead of 11: MAY is not asked", x.limit(l, 4, 1001), -13);
        Check.trace("MAY is not asked", x);
        Check.due("on another lot", x.limit(Check.newLot(x, 1, 10, 0), 2, 10), 3);
        x.batch();
        Check.due("limit", x.limit(l, 3, 10), 4);
        x.undo();
        Check.due("it was taken back: he may write", x.limit(l, 3, 10), 5);
    }

    private static void limitThatHeMayNot() {
        Check.sentence("Promise 11", "MAY is asked; 11: he may not");
        AuctionRoom x = Check.room();
        int l = Check.newLot(x, 2, 10, 0);
        Check.due("above his PURSE", x.limit(l, 4, 501), -11);
        Check.trace("above his PURSE", x, 10, 9, 5);
        Check.due("he has not written", x.limit(l, 4, 500), 1);
        Check.trace("not above his PURSE", x, 10, 9, 5);
    }

    private static void limits40() {
        Check.sentence("Promise 11", "12: it has 40 limits");
        AuctionRoom x = new AuctionRoom();
        for (int b = 0; b < 42; b++) x.bidder(2, 0);
        x.bidder(3, 5);
        x.lot(1, 10, 0);
        for (int b = 0; b < 39; b++) Check.due("limit", x.limit(0, b, 100 + b), b + 1);
        x.batch();
        Check.due("the 40th", x.limit(0, 39, 200), 40);
        x.undo();
        Check.due("again the 40th", x.limit(0, 40, 200), 41);
        Check.due("one more", x.limit(0, 39, 200), -12);
        Check.trace("behind MAY", x, 9);
        Check.due("13 ahead of 12", x.limit(0, 40, 200), -13);
        Check.due("11 ahead of 12", x.limit(0, 42, 6), -11);
        Check.due("no number was taken", x.numbers(0), 41);
        Check.due("call", x.call(0), 1);
        Check.due("the 40th is first", x.stands(0), 40);
        Check.due("the 39th is second", x.sum(0), 139);
        Check.due("one more while it is called", x.limit(0, 41, 300), -12);
        Check.due("another lot has its own", x.limit((int) x.lot(1, 10, 0), 41, 10), 42);
    }

    private static void limitIntoAFullBook() {
        Check.sentence("Promise 11", "or its book has 300 entries.");
        AuctionRoom x = Check.room();
        x.bidder(2, 0);
        int l = lotOfEntries(x, 299, 0);
        Check.due("299 entries", x.limit(l, 2, 400), 300);
        Check.due("the 300th", x.entries(l), 300);
        Check.due("300 entries", x.limit(l, 3, 10), -12);
        Check.trace("behind MAY", x, 9);
        Check.due("13 ahead of 12", x.limit(l, 2, 500), -13);
        Check.due("11 ahead of 12", x.limit(l, 4, 1001), -11);
        Check.due("the last entry", x.sumAt(l, 299), 300);
        Check.due("it can be sold", x.hammer(l), 300);
    }

    private static void askReasons() {
        Check.sentence("Promise 12", "Reasons: l is looked up; it is open.");
        AuctionRoom x = Check.room();
        Check.due("beyond", x.ask(400), -3);
        Check.due("none", x.ask(399), -2);
        int l = Check.newLot(x, 1, Check.SUM, 0);
        Check.due("new", x.ask(l), -6);
        Check.trace("no body runs", x);
        x.call(l);
        Check.due("called", x.ask(l), Check.SUM);
        x.bid(l, 0, Check.SUM);
        Check.due("above all sums", x.ask(l), Check.SUM + 1);
        x.hammer(l);
        Check.due("sold", x.ask(l), -9);
        Check.trace("no body runs", x);
    }

    private static void openReasons() {
        Check.sentence("Promise 13",
            "Reasons: l is looked up as SEALED; it is open; 8: it was opened; 14: it has no entry.");
        AuctionRoom x = Check.room();
        Check.due("beyond", x.open(-1), -3);
        Check.due("none", x.open(0), -2);
        int single = Check.newLot(x, 1, 10, 0);
        Check.due("4 ahead of 6", x.open(single), -4);
        x.call(single);
        Check.due("4 ahead of 14", x.open(single), -4);
        int l = Check.newLot(x, 4, 10, 30);
        Check.due("new", x.open(l), -6);
        x.call(l);
        Check.due("no entry", x.open(l), -14);
        Check.due("it was not opened", x.bid(l, 0, 29), 1);
        Check.due("one entry", x.open(l), 0);
        Check.due("again", x.open(l), -8);
        x.hammer(l);
        Check.due("9 ahead of 8", x.open(l), -9);
        int empty = Check.passedLot(x, 4, 10, 0);
        Check.due("9 ahead of 14", x.open(empty), -9);
    }

    /** A SEALED lot from 10 on, with entries of bidders 0, 1, 6 and 7. */
    private static AuctionRoom sealed(long reserve, long... sums) {
        AuctionRoom x = Check.room();
        x.bidder(1, 0);
        x.bidder(1, 0);
        int[] bidders = {0, 1, 6, 7};
        Check.calledLot(x, 4, 10, reserve);
        for (int i = 0; i < sums.length; i++) x.bid(0, bidders[i], sums[i]);
        return x;
    }

    private static void dueOpened(AuctionRoom x, String what, int bidder, long sum) {
        Check.due(what + ": open", x.open(0), sum);
        Check.due(what + ": why", x.why(), 0);
        Check.due(what + ": stands", x.stands(0), bidder);
        Check.due(what + ": sum", x.sum(0), sum);
    }

    private static void openGreatest() {
        Check.sentence("Promise 13", "the bidder of the greatest entry, of equal ones of the first, stands");
        dueOpened(sealed(0, 40, 30, 20), "the first is the greatest", 0, 30);
        dueOpened(sealed(0, 30, 40, 20), "the second", 1, 30);
        dueOpened(sealed(0, 20, 30, 40), "the last", 6, 30);
        dueOpened(sealed(0, 40, 20, 30), "the second greatest is the last", 0, 30);
        dueOpened(sealed(0, 40, 40, 20), "two equal ones", 0, 40);
        dueOpened(sealed(0, 20, 40, 40), "two equal ones behind", 1, 40);
        dueOpened(sealed(0, 20, 40, 30, 40), "the last equals", 1, 40);
        dueOpened(sealed(0, 20, 20, 20, 20), "all equal", 0, 20);
        dueOpened(sealed(0, 20, 20, 21), "equal ones below", 6, 20);
        dueOpened(sealed(0, Check.SUM, Check.SUM), "greatest sums", 0, Check.SUM);
    }

    private static void openAtLeast() {
        Check.sentence("Promise 13", "at the greatest of the second greatest, RESERVE and START");
        dueOpened(sealed(0, 40), "one entry: START", 0, 10);
        dueOpened(sealed(9, 40), "RESERVE below START", 0, 10);
        dueOpened(sealed(10, 40), "RESERVE as START", 0, 10);
        dueOpened(sealed(11, 40), "RESERVE above START", 0, 11);
        dueOpened(sealed(0, 40, 10), "the second at START", 0, 10);
        dueOpened(sealed(0, 40, 11), "the second above START", 0, 11);
        dueOpened(sealed(20, 40, 19), "the second below RESERVE", 0, 20);
        dueOpened(sealed(20, 40, 20), "the second at RESERVE", 0, 20);
        dueOpened(sealed(20, 40, 21), "the second above RESERVE", 0, 21);
    }

    private static void openReserve() {
        Check.sentence("Promise 13", "if his entry is RESERVE or more; else nothing stands."
            + " Answers the sum that stands, 0 if none does.");
        dueOpened(sealed(20, 19), "below", -1, 0);
        dueOpened(sealed(20, 20), "at it", 0, 20);
        dueOpened(sealed(20, 21), "above", 0, 20);
        dueOpened(sealed(20, 19, 19), "two below", -1, 0);
        dueOpened(sealed(20, 19, 20), "one below, one at it", 1, 20);
        AuctionRoom taken = sealed(0, 40);
        taken.batch();
        Check.due("bid", taken.bid(0, 1, 90), 2);
        taken.undo();
        dueOpened(taken, "an entry that was taken back is none", 0, 10);
        AuctionRoom x = sealed(20, 19);
        x.open(0);
        Check.due("it passes", x.hammer(0), 0);
        Check.due("it passed", x.state(0), 3);
    }

    private static void tickFalls() {
        Check.sentence("Promise 14",
            "A FALLING lot's PRICE falls by so much, but not below RESERVE, nor below 1. Answers it.");
        // By, RESERVE, PRICE then, of a lot from 100 on.
        long[][] rows = {{1, 0, 99}, {98, 0, 2}, {99, 0, 1}, {100, 0, 1}, {Check.SUM, 0, 1}, {99, 1, 1},
            {100, 1, 1}, {97, 2, 3}, {98, 2, 2}, {99, 2, 2}, {69, 30, 31}, {70, 30, 30}, {71, 30, 30}};
        for (long[] row : rows) {
            AuctionRoom x = Check.room();
            int l = Check.calledLot(x, 5, 100, row[1]);
            Check.due("by " + row[0] + ", RESERVE " + row[1], x.tick(l, row[0]), row[2]);
            Check.trace("no body runs", x);
            Check.due("its PRICE", x.ask(l), row[2]);
            Check.due("it can be taken so", x.take(l, 0), row[2]);
        }
    }

    private static void tickReasons() {
        Check.sentence("Promise 14",
            "Reasons: 1 (by is no sum); l is looked up as FALLING; it is open; 8: something stands");
        AuctionRoom x = Check.room();
        Check.due("1 ahead of 3", x.tick(-1, 0), -1);
        Check.due("1 ahead of 2", x.tick(0, Check.SUM + 1), -1);
        int sealed = Check.newLot(x, 4, 10, 0);
        Check.due("1 ahead of 4", x.tick(sealed, 0), -1);
        Check.due("4 ahead of 6", x.tick(sealed, 1), -4);
        int l = Check.newLot(x, 5, 10, 0);
        Check.due("1 ahead of 6", x.tick(l, 0), -1);
        Check.due("new", x.tick(l, 1), -6);
        x.call(l);
        Check.due("called", x.tick(l, 1), 9);
        x.take(l, 0);
        Check.due("something stands", x.tick(l, 1), -8);
        Check.due("its PRICE stays", x.ask(l), 9);
        x.hammer(l);
        Check.due("9 ahead of 8", x.tick(l, 1), -9);
        int floor = Check.calledLot(x, 5, 10, 10);
        x.take(floor, 0);
        Check.due("8 ahead of 10", x.tick(floor, 1), -8);
    }

    private static void tickTooLittle() {
        Check.sentence("Promise 14", "10: it is not above RESERVE, or not above 1.");
        AuctionRoom x = Check.room();
        int l = Check.calledLot(x, 5, 10, 8);
        Check.due("two above RESERVE", x.tick(l, 1), 9);
        Check.due("one above RESERVE", x.tick(l, 1), 8);
        Check.due("at RESERVE", x.tick(l, 1), -10);
        int none = Check.calledLot(x, 5, 2, 0);
        Check.due("above 1", x.tick(none, 1), 1);
        Check.due("at 1, no RESERVE", x.tick(none, 1), -10);
        int same = Check.calledLot(x, 5, 10, 10);
        Check.due("START is RESERVE", x.tick(same, 1), -10);
        int one = Check.calledLot(x, 5, 1, 0);
        Check.due("START is 1", x.tick(one, Check.SUM), -10);
        Check.due("it can be taken yet", x.take(one, 0), 1);
    }

    private static void takeReasons() {
        Check.sentence("Promise 15", "Reasons: l is looked up as FALLING; b is looked up as a ROOM; it is open");
        AuctionRoom x = Check.room();
        Check.due("lot's 3 ahead of bidder's 2", x.take(400, 6), -3);
        Check.due("lot's 2 ahead of bidder's 3", x.take(0, 200), -2);
        int single = Check.newLot(x, 1, 10, 0);
        Check.due("lot's 4 ahead of bidder's 3", x.take(single, 200), -4);
        Check.due("lot's 4 ahead of 6", x.take(single, 0), -4);
        int l = Check.newLot(x, 5, 10, 0);
        Check.due("bidder's 3 ahead of 6", x.take(l, 200), -3);
        Check.due("bidder's 2 ahead of 6", x.take(l, 6), -2);
        for (int b = 2; b <= 5; b++) Check.due("bidder's 4 ahead of 6", x.take(l, b), -4);
        Check.due("new", x.take(l, 0), -6);
        x.call(l);
        for (int b = 2; b <= 5; b++) Check.due("no ROOM", x.take(l, b), -4);
        Check.due("called", x.take(l, 1), 10);
        for (int b = 2; b <= 5; b++) Check.due("bidder's 4 ahead of 8", x.take(l, b), -4);
        x.hammer(l);
        Check.due("sold: 9 ahead of 8", x.take(l, 0), -9);
    }

    private static void takeAgain() {
        Check.sentence("Promise 15", "8: something stands.");
        AuctionRoom x = Check.room();
        int l = Check.calledLot(x, 5, 10, 0);
        x.batch();
        Check.due("takes it", x.take(l, 0), 10);
        Check.due("stands", x.stands(l), 0);
        x.undo();
        Check.due("nothing stands", x.stands(l), -1);
        Check.due("another takes it", x.take(l, 1), 10);
        Check.due("the same again", x.take(l, 1), -8);
        Check.due("one more", x.take(l, 0), -8);
        Check.due("one entry", x.entries(l), 1);
    }

    private static void dueEntry(AuctionRoom x, int l, int i, long bidder, long sum) {
        Check.due("bidderAt " + i, x.bidderAt(l, i), bidder);
        Check.due("sumAt " + i, x.sumAt(l, i), sum);
    }

    private static void entriesThere() {
        Check.sentence("Promise 16", "The bidder of entry i, from 0, of a lot's book.");
        Check.sentence("Promise 17", "The sum of that entry. Reasons as at bidderAt.");
        AuctionRoom x = Check.room();
        int l = Check.calledLot(x, 1, 10, 0);
        dueEntry(x, l, 0, -3, -3);
        x.bid(l, 1, 12);
        dueEntry(x, l, 0, 1, 12);
        dueEntry(x, l, 1, -3, -3);
        x.bid(l, 0, 15);
        dueEntry(x, l, 1, 0, 15);
        dueEntry(x, l, 2, -3, -3);
        for (int no : new int[] {-1, Integer.MIN_VALUE, Integer.MAX_VALUE}) dueEntry(x, l, no, -3, -3);
        x.hammer(l);
        dueEntry(x, l, 0, 1, 12);
        dueEntry(x, l, 1, 0, 15);
        dueEntry(x, l, 2, -3, -3);
    }

    private static void entriesReasons() {
        Check.sentence("Promise 16", "Reasons: l is looked up; 6; 7: it is SEALED, called and was not opened; 3.");
        AuctionRoom x = Check.room();
        dueEntry(x, -1, -1, -3, -3);
        dueEntry(x, 400, 0, -3, -3);
        dueEntry(x, 0, -1, -2, -2);
        for (int kind = 1; kind <= 5; kind++) {
            int l = Check.newLot(x, kind, 10, 0);
            dueEntry(x, l, 0, -6, -6);
            dueEntry(x, l, -1, -6, -6);
        }
        int again = Check.passedLot(x, 1, 10, 0);
        dueEntry(x, again, 0, -3, -3);
        x.reoffer(again, 10);
        dueEntry(x, again, 0, -6, -6);
    }

    private static void entriesSealedYet() {
        Check.sentence("Promise 16", "7: it is SEALED, called and was not opened");
        AuctionRoom x = Check.room();
        int l = Check.calledLot(x, 4, 10, 50);
        dueEntry(x, l, 0, -7, -7);
        x.bid(l, 1, 12);
        dueEntry(x, l, 0, -7, -7);
        dueEntry(x, l, 1, -7, -7);
        x.batch();
        x.hammer(l);
        dueEntry(x, l, 0, 1, 12);
        x.undo();
        dueEntry(x, l, 0, -7, -7);
        x.open(l);
        dueEntry(x, l, 0, 1, 12);
        dueEntry(x, l, 1, -3, -3);
    }
}
