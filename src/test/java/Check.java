/** Counts the answers that are not as due, and ends a test by that. */
final class Check {
    static final long SUM = 1_000_000_000_000L;
    private static int wrong;
    private static int asked;

    private Check() {
    }

    static void due(String what, long got, long want) {
        asked++;
        if (got == want) return;
        wrong++;
        System.out.println(what + " answered " + got + ", due is " + want);
    }

    /** The whole trace of the latest act. */
    static void trace(String what, AuctionRoom x, int... bodies) {
        for (int i = 0; i < bodies.length; i++) due(what + ": trace(" + i + ")", x.trace(i), bodies[i]);
        due(what + ": trace's end", x.trace(bodies.length), 0);
    }

    static void end() {
        System.out.println(wrong == 0 ? asked + " answers are as due" : wrong + " answers are not as due");
        if (wrong != 0) System.exit(1);
    }

    /** A room with bidders 0 ROOM, 1 ROOM, 2 PAPER, 3 PAPER, 4 AGENT (purse 1000), 5 HOUSE. */
    static AuctionRoom room() {
        AuctionRoom x = new AuctionRoom();
        due("bidder", x.bidder(1, 0), 0);
        due("bidder", x.bidder(1, 0), 1);
        due("bidder", x.bidder(2, 0), 2);
        due("bidder", x.bidder(2, 0), 3);
        due("bidder", x.bidder(3, 1000), 4);
        due("bidder", x.bidder(4, 0), 5);
        return x;
    }

    /** A lot of that kind with a seller, called. */
    static int calledLot(AuctionRoom x, int kind, long start, long reserve) {
        int l = (int) x.lot(kind, start, reserve);
        due("seller", x.seller(l, 5), 1);
        due("call", x.call(l), 0);
        return l;
    }
}
