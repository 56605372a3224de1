/** Promise 21, at the boundary cases that the document names. */
public final class EdgesOfTurningsTest {
    private static final int MIRRORED = 0;
    private static final int TWICE = 1;
    private static final int MOVED = 2;
    private static final int BACK = 3;
    private static final int ROUND = 4;

    public static void main(String[] args) {
        Edges.run(EdgesOfTurningsTest.class, 21, 21);
    }

    /** On a line and on a circle: how many were done, and the map that comes of it. */
    private static void turned(Edge edge, String figures, int n, int turnings, int c, int done, int map) {
        String call = figures + ": turn(" + n + ", " + turnings + ", " + c + ")";
        ForcedRings line = Due.led(figures);
        edge.is(call + " on a line", line.turn(n, turnings, c), done);
        edge.is(call + " on a line, map()", line.map(), map);
        ForcedRings circle = Due.onCircle(figures);
        edge.is(call + " on a circle", circle.turn(n, turnings, c), done);
        edge.is(call + " on a circle, map()", circle.map(), map);
    }

    @Says(promise = 21, words = "TURNINGS by figures (n of them, 1 .. 6)")
    static void oneTurningAndSix(Edge edge) {
        turned(edge, "012", 1, ROUND, 1, 1, 120);
        turned(edge, "012", 6, 444444, 1, 6, 12);
        turned(edge, "012", 5, 44444, 1, 5, 201);
    }

    @Says(promise = 21, words = "BAD: n, figures haven't just n (0 ahead may be), one is above 4, c.")
    static void noSuchNumberOfTurnings(Edge edge) {
        for (int bad : new int[] {0, 7, -1, 8, Edge.LEAST, Edge.MOST}) {
            edge.refused("turn(" + bad + ", 0, 0)", Edge.BAD, x -> x.turn(bad, 0, 0));
            edge.refused("turn(" + bad + ", 4444444, 1)", Edge.BAD, x -> x.turn(bad, 4444444, 1));
        }
    }

    @Says(promise = 21, words = "figures haven't just n (0 ahead may be)")
    static void zerosAhead(Edge edge) {
        turned(edge, "012", 2, 4, 1, 2, 120);
        turned(edge, "112", 6, 0, 0, 6, 112);
        // MIRRORED five times, then TWICE of what comes of it.
        turned(edge, "1230", 6, 1, 0, 6, 2301);
        turned(edge, "120", 1, 0, 0, 1, 201);
    }

    @Says(promise = 21, words = "figures haven't just n (0 ahead may be)")
    static void oneFigureTooMany(Edge edge) {
        int lowest = 1;
        for (int n = 1; n <= 6; n++) {
            int asked = n;
            int least = lowest * 10;
            edge.refused("turn(" + n + ", " + least + ", 0)", Edge.BAD, x -> x.turn(asked, least, 0));
            lowest = least;
        }
        edge.refused("turn(1, 44, 0)", Edge.BAD, x -> x.turn(1, 44, 0));
        edge.refused("turn(6, 1444444, 0)", Edge.BAD, x -> x.turn(6, 1444444, 0));
        edge.refused("turn(6, 2000000000, 0)", Edge.BAD, x -> x.turn(6, 2000000000, 0));
        edge.refused("turn(6, most, 0)", Edge.BAD, x -> x.turn(6, Edge.MOST, 0));
    }

    @Says(promise = 21, words = "one is above 4")
    static void oneAbove4AtEachPlace(Edge edge) {
        turned(edge, "012", 6, 444444, 0, 6, 12);
        int place = 1;
        for (int i = 0; i < 6; i++) {
            int five = 5 * place;
            int nine = 444444 + 5 * place;
            edge.refused("turn(6, " + five + ", 0)", Edge.BAD, x -> x.turn(6, five, 0));
            edge.refused("turn(6, " + nine + ", 0)", Edge.BAD, x -> x.turn(6, nine, 0));
            place *= 10;
        }
        for (int bad = 5; bad <= 9; bad++) {
            int asked = bad;
            edge.refused("turn(1, " + bad + ", 0)", Edge.BAD, x -> x.turn(1, asked, 0));
        }
    }

    @Says(promise = 21, words = "figures below 0 are BAD.")
    static void figuresBelow0(Edge edge) {
        for (int bad : new int[] {-1, -4, -44, -444444, -10, Edge.LEAST}) {
            edge.refused("turn(1, " + bad + ", 0)", Edge.BAD, x -> x.turn(1, bad, 0));
            edge.refused("turn(2, " + bad + ", 0)", Edge.BAD, x -> x.turn(2, bad, 0));
            edge.refused("turn(6, " + bad + ", 0)", Edge.BAD, x -> x.turn(6, bad, 0));
        }
    }

    @Says(promise = 21, words = "c (0 .. 7) for ROUND: how many were done.")
    static void theLeastCAndTheGreatest(Edge edge) {
        turned(edge, "01234567", 1, ROUND, 0, 1, 1234567);
        turned(edge, "01234567", 1, ROUND, 7, 1, 70123456);
        turned(edge, "01", 1, ROUND, 7, 1, 10);
        turned(edge, "012", 1, ROUND, 7, 1, 120);
    }

    @Says(promise = 21, words = "turn() asks c also without ROUND")
    static void noSuchC(Edge edge) {
        for (int bad : new int[] {-1, 8, 9, Edge.LEAST, Edge.MOST}) {
            for (int turning = MIRRORED; turning <= ROUND; turning++) {
                int asked = turning;
                edge.refused("turn(1, " + turning + ", " + bad + ")", Edge.BAD, x -> x.turn(1, asked, bad));
            }
            edge.refused("turn(6, 0, " + bad + ")", Edge.BAD, x -> x.turn(6, 0, bad));
        }
    }

    @Says(promise = 21, words = "0 MIRRORED: point i is now point n less 1 less i")
    static void mirroredAtTheEnds(Edge edge) {
        turned(edge, "00", 1, MIRRORED, 0, 1, 11);
        turned(edge, "01", 1, MIRRORED, 0, 1, 1);
        turned(edge, "70000000", 1, MIRRORED, 0, 1, 77777770);
        turned(edge, "0012", 1, MIRRORED, 0, 1, 1233);
    }

    @Says(promise = 21, words = "1 TWICE: each is LED where it was led by two steps")
    static void twiceTakesWhereItWasLed(Edge edge) {
        // Point 0 is led to 2 first: 7 is led to 1, where 0 was led, not to 2.
        turned(edge, "12345670", 1, TWICE, 0, 1, 23456701);
        turned(edge, "70123456", 1, TWICE, 0, 1, 67012345);
        turned(edge, "10", 1, TWICE, 0, 1, 1);
        turned(edge, "01", 1, TWICE, 0, 1, 1);
    }

    @Says(promise = 21, words = "2 MOVED by 1: point i is now point i + 1 (the last one 0)")
    static void theLastPointIsMovedTo0(Edge edge) {
        turned(edge, "0011", 1, MOVED, 0, 1, 2112);
        turned(edge, "00", 1, MOVED, 0, 1, 11);
        turned(edge, "11", 1, MOVED, 0, 1, 0);
        turned(edge, "00000007", 1, MOVED, 0, 1, 1111111);
        turned(edge, "0123", 1, MOVED, 0, 1, 123);
    }

    @Says(promise = 21, words = "3 BACK: where it is LED is the other way round; can't be, if two are LED to one")
    static void backWhereItCanBeAndWhereNot(Edge edge) {
        turned(edge, "12345670", 1, BACK, 0, 1, 70123456);
        turned(edge, "12345600", 1, BACK, 0, 0, 12345600);
        turned(edge, "10", 1, BACK, 0, 1, 10);
        turned(edge, "11", 1, BACK, 0, 0, 11);
        turned(edge, "01234566", 1, BACK, 0, 0, 1234566);
    }

    @Says(promise = 21, words = "4 ROUND by the number c told: each is LED c points further on (round).")
    static void roundBehindTheLastPoint(Edge edge) {
        turned(edge, "0123", 1, ROUND, 3, 1, 3012);
        turned(edge, "0123", 1, ROUND, 4, 1, 123);
        turned(edge, "0123", 1, ROUND, 5, 1, 1230);
        turned(edge, "3333", 1, ROUND, 1, 1, 0);
    }

    @Says(promise = 21, words = "ROUND goes round on a line, too.")
    static void roundOnALine(Edge edge) {
        ForcedRings x = Due.led("222");
        edge.is("turn(1, 4, 1)", x.turn(1, ROUND, 1), 1);
        edge.is("map(), by 0 behind the last point", x.map(), 0);
        edge.is("count(1), still on a line", x.count(1), 0);
    }

    @Says(promise = 21, words = "They are done by figures, the first the highest; one that can't be is left out.")
    static void theHighestFirst(Edge edge) {
        turned(edge, "012", 2, 10 * ROUND + TWICE, 1, 2, 201);
        turned(edge, "012", 2, 10 * TWICE + ROUND, 1, 2, 120);
        turned(edge, "0013", 2, 10 * MIRRORED + MOVED, 0, 2, 130);
        turned(edge, "0013", 2, 10 * MOVED + MIRRORED, 0, 2, 1223);
    }

    @Says(promise = 21, words = "one that can't be is left out.")
    static void backIsLeftOutAndTheOthersAreDone(Edge edge) {
        turned(edge, "0012", 3, 313, 0, 1, 1);
        turned(edge, "0012", 6, 333333, 0, 0, 12);
        turned(edge, "0012", 6, 333334, 1, 1, 1123);
        turned(edge, "0012", 6, 433333, 1, 1, 1123);
    }

    @Says(promise = 21, words = "BACK is asked of the map as it is then.")
    static void backOfTheMapAsItIsThen(Edge edge) {
        // 120 twice is 201, and that back is 120; 123 further on by one is 1230, and that back is 3012.
        turned(edge, "120", 2, 10 * TWICE + BACK, 0, 2, 120);
        turned(edge, "0123", 2, 10 * ROUND + BACK, 1, 2, 3012);
        turned(edge, "1203", 6, 333333, 0, 6, 1203);
        ForcedRings x = Due.led("1123");
        edge.is("turn(1, 3, 0), two led to one", x.turn(1, BACK, 0), 0);
        x.lead(0, 0);
        edge.is("turn(1, 3, 0), no two any more", x.turn(1, BACK, 0), 1);
        x.lead(0, 3);
        edge.is("turn(1, 3, 0), two again", x.turn(1, BACK, 0), 0);
    }

    @Says(promise = 21, words = "A turn() that did nothing leaves a DEED")
    static void aTurnThatDidNothing(Edge edge) {
        ForcedRings x = new ForcedRings();
        x.points(3);
        edge.is("turn(1, 0, 0) of 012", x.turn(1, MIRRORED, 0), 1);
        edge.is("count(3)", x.count(3), 1);
        x.lead(0, 1);
        edge.is("turn(1, 3, 0) that can't be", x.turn(1, BACK, 0), 0);
        edge.is("count(3)", x.count(3), 3);
        edge.is("back()", x.back(), 2);
        edge.is("map(), as it was ahead of it", x.map(), 112);
        edge.is("back()", x.back(), 1);
        edge.is("map(), ahead of lead()", x.map(), 12);
    }

    @Says(promise = 21, words = "DEEDS: lead(), turn(), read() that is no FAULT, each that is not refused")
    static void sixTurningsAreOneDeed(Edge edge) {
        ForcedRings x = Due.led("120");
        x.turn(6, 444441, 1);
        edge.is("count(3)", x.count(3), 4);
        edge.is("back()", x.back(), 3);
        edge.is("map()", x.map(), 120);
    }
}
