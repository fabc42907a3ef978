import java.io.IOException;
import java.util.Set;
import java.util.TreeSet;

/** Counts the answers that are not as due, and ends a test by that. */
final class Check {
    static final long SUM = 1_000_000_000_000L;
    private static final Set<String> SECTIONS = new TreeSet<>();
    private static String about = "";
    private static int wrong;
    private static int asked;

    private Check() {
    }

    /** The sentence of the document that asks for the answers behind it. */
    static void sentence(String section, String words) {
        about = section + ", \"" + words + "\": ";
        SECTIONS.add(section);
        try {
            due("it stands in the document", Document.says(section, words));
        } catch (IOException e) {
            due("the document can be read: " + e, false);
        }
    }

    static void everyPromiseWasNamed() {
        about = "";
        for (int i = 1; i <= 42; i++) {
            due("a test stands for a sentence of promise " + i, SECTIONS.contains("Promise " + i));
        }
    }

    static void due(String what, boolean holds) {
        due(what, holds ? 1 : 0, 1);
    }

    static void due(String what, long got, long want) {
        asked++;
        if (got == want) return;
        wrong++;
        System.out.println(about + what + " answered " + got + ", due is " + want);
    }

    /** The whole trace of the latest act. */
    static void trace(String what, AuctionRoom x, int... bodies) {
        for (int i = 0; i < bodies.length; i++) due(what + ": trace(" + i + ")", x.trace(i), bodies[i]);
        due(what + ": trace's end", x.trace(bodies.length), 0);
    }

    static void end() {
        System.out.println(wrong == 0 ? asked + " answers are as due" : wrong + " answers are not as due");
        if (wrong != 0) System.exit(1);
    }

    /** A room with bidders 0 ROOM, 1 ROOM, 2 PAPER, 3 PAPER, 4 AGENT (purse 1000), 5 HOUSE. */
    static AuctionRoom room() {
        AuctionRoom x = new AuctionRoom();
        due("bidder", x.bidder(1, 0), 0);
        due("bidder", x.bidder(1, 0), 1);
        due("bidder", x.bidder(2, 0), 2);
        due("bidder", x.bidder(2, 0), 3);
        due("bidder", x.bidder(3, 1000), 4);
        due("bidder", x.bidder(4, 0), 5);
        return x;
    }

    /** A new lot of that kind with the HOUSE as seller. */
    static int newLot(AuctionRoom x, int kind, long start, long reserve) {
        int l = (int) x.lot(kind, start, reserve);
        due("seller", x.seller(l, 5), 1);
        return l;
    }

    /** A lot of that kind with a seller, called. */
    static int calledLot(AuctionRoom x, int kind, long start, long reserve) {
        int l = newLot(x, kind, start, reserve);
        due("call", x.call(l), 0);
        return l;
    }

    /** A lot of that kind that was called and passed with nothing on it. */
    static int passedLot(AuctionRoom x, int kind, long start, long reserve) {
        int l = calledLot(x, kind, start, reserve);
        due("hammer", x.hammer(l), 0);
        return l;
    }

    /** A lot of that kind, but no SEALED one, that was sold to bidder 0 at its start. */
    static int soldLot(AuctionRoom x, int kind, long start) {
        int l = calledLot(x, kind, start, 0);
        due("somebody stands", (kind == 5 ? x.take(l, 0) : x.bid(l, 0, start)) > 0);
        due("it is sold", x.hammer(l) > 0);
        return l;
    }
}
