/** Promises 10 to 16, at the boundary cases that the document names. */
public final class EdgesOfPiecesTest {
    /** Seven pieces on a line, each of which covers all seven: 7 to the k less 1 paths from any to any. */
    private static final String ALL_COVER_ALL = "07070707";

    public static void main(String[] args) {
        Edges.run(EdgesOfPiecesTest.class, 10, 16);
    }

    // ---- 10 covers

    @Says(promise = 10, words = "PIECES: on a line i, between points i and i + 1 (n less 1 of them);")
    static void theLastPieceOnALine(Edge edge) {
        for (int n = 2; n <= 8; n++) {
            ForcedRings x = new ForcedRings();
            x.points(n);
            edge.is("n " + n + ": covers(n - 2, 0)", x.covers(n - 2, 0), 1 << n - 2);
            edge.is("n " + n + ": covers(n - 1, 0)", x.covers(n - 1, 0), Edge.BAD);
        }
    }

    @Says(promise = 10, words = "on a circle n, the last one between the last point and 0.")
    static void theLastPieceOnACircle(Edge edge) {
        for (int n = 2; n <= 8; n++) {
            ForcedRings x = new ForcedRings();
            x.points(n);
            x.way(1);
            edge.is("n " + n + ": covers(n - 1, 0)", x.covers(n - 1, 0), 1 << n - 1);
            edge.is("n " + n + ": covers(n, 0)", x.covers(n, 0), Edge.BAD);
        }
    }

    @Says(promise = 10, words = "a PIECE whose ends are LED to one point COVERS none.")
    static void endsLedToOnePoint(Edge edge) {
        for (int point = 0; point <= 2; point++) {
            String figures = "" + point + point + point;
            edge.is(figures + " on a line: covers(0, 0)", Due.led(figures).covers(0, 0), 0);
            edge.is(figures + " on a line: covers(0, 2)", Due.led(figures).covers(0, 2), 0);
            edge.is(figures + " on a circle: covers(0, 0)", Due.onCircle(figures).covers(0, 0), 0);
            edge.is(figures + " on a circle: covers(2, 0)", Due.onCircle(figures).covers(2, 0), 0);
            edge.is(figures + " on a circle: covers(2, 2)", Due.onCircle(figures).covers(2, 2), 0);
        }
    }

    @Says(promise = 10, words = "on a line the PIECES from the lesser of these to the greater one")
    static void theNarrowestAndTheWidestOnALine(Edge edge) {
        ForcedRings x = Due.led("07001676");
        int[] covered = {127, 127, 0, 1, 62, 64, 64};
        for (int piece = 0; piece < covered.length; piece++) {
            edge.is("covers(" + piece + ", 0)", x.covers(piece, 0), covered[piece]);
        }
    }

    @Says(promise = 10, words = "On a circle it COVERS those from where its first end is LED on, forward, also by the longer way.")
    static void roundBehindTheLastPoint(Edge edge) {
        ForcedRings x = Due.onCircle("10732107");
        // From 1 to 0, 0 to 7, 7 to 3, 3 to 2, 2 to 1, 1 to 0, 0 to 7, 7 to 1.
        int[] covered = {254, 127, 128 + 7, 255 - 4, 255 - 2, 254, 127, 128 + 1};
        for (int piece = 0; piece < covered.length; piece++) {
            edge.is("covers(" + piece + ", 0)", x.covers(piece, 0), covered[piece]);
        }
        edge.is("covers(0, 0) of two points", Due.onCircle("10").covers(0, 0), 2);
        edge.is("covers(1, 0) of two points", Due.onCircle("10").covers(1, 0), 1);
    }

    @Says(promise = 10, words = "on a circle those one comes through from a on to b, forward (none, if they are the same).")
    static void oneStepForwardAllButOneAndNone(Edge edge) {
        ForcedRings x = Due.onCircle("00776701");
        // From 0 to 0, 0 to 7, 7 to 7, 7 to 6, 6 to 7, 7 to 0, 0 to 1, 1 to 0.
        int[] covered = {0, 127, 0, 255 - 64, 64, 128, 1, 254};
        for (int piece = 0; piece < covered.length; piece++) {
            edge.is("covers(" + piece + ", 0)", x.covers(piece, 0), covered[piece]);
        }
    }

    @Says(promise = 10, words = "A PIECE FALLS (on a line alone), if a is greater than b.")
    static void fallsOnlyIfGreaterAndOnlyOnALine(Edge edge) {
        String[] maps = {"01", "00", "11", "10"};
        int[] falls = {0, 0, 0, 1};
        for (int i = 0; i < maps.length; i++) {
            edge.is(maps[i] + " on a line: covers(0, 1)", Due.led(maps[i]).covers(0, 1), falls[i]);
            edge.is(maps[i] + " on a circle: covers(0, 1)", Due.onCircle(maps[i]).covers(0, 1), 0);
            edge.is(maps[i] + " on a circle: covers(1, 1)", Due.onCircle(maps[i]).covers(1, 1), 0);
        }
    }

    @Says(promise = 10, words = "A PIECE FALLS (on a line alone), if a is greater than b.")
    static void fallsNoMoreBehindAChange(Edge edge) {
        ForcedRings x = Due.led("10");
        edge.is("covers(0, 1)", x.covers(0, 1), 1);
        x.way(1);
        edge.is("covers(0, 1) on a circle", x.covers(0, 1), 0);
        x.way(0);
        edge.is("covers(0, 1) on a line again", x.covers(0, 1), 1);
        x.lead(0, 0);
        edge.is("covers(0, 1) of 00", x.covers(0, 1), 0);
        edge.is("covers(0, 0) of 00", x.covers(0, 0), 0);
    }

    @Says(promise = 10, words = "REACHED: PIECES to which some PATH of 1 or more leads (bits).")
    static void notReachedByAPathOf0(Edge edge) {
        // Piece 2 covers 1, which covers 0, which covers none: none of them reaches itself.
        ForcedRings x = Due.led("0012");
        edge.is("covers(0, 2)", x.covers(0, 2), 0);
        edge.is("covers(1, 2)", x.covers(1, 2), 1);
        edge.is("covers(2, 2)", x.covers(2, 2), 3);
        edge.is("covers(0, 2) of a piece that covers itself", Due.led("01").covers(0, 2), 1);
    }

    @Says(promise = 10, words = "REACHED: PIECES to which some PATH of 1 or more leads (bits).")
    static void reachedByTheLongestPaths(Edge edge) {
        ForcedRings x = Due.onCircle("12345670");
        ForcedRings y = Due.onCircle("70123456");
        for (int piece = 0; piece < 8; piece++) {
            edge.is("forward: covers(" + piece + ", 2)", x.covers(piece, 2), 255);
            edge.is("backward: covers(" + piece + ", 2)", y.covers(piece, 2), 255);
        }
        edge.is("covers(6, 2) on a line, by six steps", Due.led("00123456").covers(6, 2), 63);
    }

    @Says(promise = 10, words = "What a PIECE COVERS (what 0; bits), whether it FALLS (1; 1, 0), REACHED (2; bits). BAD.")
    static void noSuchPieceAndNoSuchWhat(Edge edge) {
        for (int bad : new int[] {-1, 4, 5, 8, Edge.LEAST, Edge.MOST}) {
            for (int what = 0; what <= 2; what++) {
                int asked = what;
                edge.refused("covers(" + bad + ", " + what + ")", Edge.BAD, x -> x.covers(bad, asked));
            }
        }
        for (int bad : new int[] {-1, 3, Edge.LEAST, Edge.MOST}) {
            edge.refused("covers(0, " + bad + ")", Edge.BAD, x -> x.covers(0, bad));
            edge.refusedBehind(x -> x.way(1), "covers(4, " + bad + ")", Edge.BAD, x -> x.covers(4, bad));
        }
    }

    // ---- 11 paths

    @Says(promise = 11, words = "PATH of k (0 .. 30) from a PIECE to another one: k steps, each from a PIECE to one that it COVERS.")
    static void noStepAndTheMost(Edge edge) {
        ForcedRings x = Due.led("120");
        edge.is("paths(0, 0, 0)", x.paths(0, 0, 0), 1);
        edge.is("paths(0, 1, 0)", x.paths(0, 1, 0), 0);
        edge.is("paths(0, 0, 1)", x.paths(0, 0, 1), 0);
        edge.is("paths(0, 1, 1)", x.paths(0, 1, 1), 1);
        edge.is("paths(1, 1, 30)", x.paths(1, 1, 30), 1346269);
        edge.is("paths(0, 0, 0) where it covers none", Due.led("00").paths(0, 0, 0), 1);
        edge.is("paths(0, 0, 30) where it covers none", Due.led("00").paths(0, 0, 30), 0);
    }

    @Says(promise = 11, words = "How many PATHS of k there are from a PIECE to another one (a long that wraps).")
    static void pathsThatWrap(Edge edge) {
        ForcedRings x = Due.led(ALL_COVER_ALL);
        edge.is("paths(0, 6, 23), the last that doesn't wrap", x.paths(0, 6, 23), 3909821048582988049L);
        edge.is("paths(0, 6, 24)", x.paths(0, 6, 24), 8922003266371364727L);
        edge.is("paths(6, 0, 29), below 0", x.paths(6, 0, 29), -1473677281418119775L);
        edge.is("paths(6, 6, 30)", x.paths(6, 6, 30), 8131003103782713191L);
    }

    @Says(promise = 11, words = "(a long that wraps). NO: pieces, k.")
    static void noSuchPiecesAndNoSuchLength(Edge edge) {
        for (int bad : new int[] {-1, 4, 5, 8, Edge.LEAST, Edge.MOST}) {
            edge.refused("paths(" + bad + ", 0, 1)", Edge.NO, x -> x.paths(bad, 0, 1));
            edge.refused("paths(0, " + bad + ", 1)", Edge.NO, x -> x.paths(0, bad, 1));
            edge.refused("paths(" + bad + ", " + bad + ", 0)", Edge.NO, x -> x.paths(bad, bad, 0));
        }
        for (int bad : new int[] {-1, 31, 32, Edge.LEAST, Edge.MOST}) {
            edge.refused("paths(0, 0, " + bad + ")", Edge.NO, x -> x.paths(0, 0, bad));
        }
    }

    @Says(promise = 11, words = "on a circle n, the last one between the last point and 0.")
    static void pathsOfTheLastPieceOnACircle(Edge edge) {
        ForcedRings x = Due.onCircle("12345670");
        edge.is("paths(7, 7, 8)", x.paths(7, 7, 8), 1);
        edge.is("paths(7, 0, 1)", x.paths(7, 0, 1), 1);
        edge.is("paths(0, 7, 7)", x.paths(0, 7, 7), 1);
        edge.is("paths(8, 0, 1)", x.paths(8, 0, 1), Edge.NO);
        edge.is("paths(0, 8, 1)", x.paths(0, 8, 1), Edge.NO);
    }

    // ---- 12 loops

    @Says(promise = 12, words = "LOOP of m (1 .. 30): a PATH of m from a PIECE to itself")
    static void theShortestAndTheLongest(Edge edge) {
        ForcedRings x = Due.led("120");
        edge.is("loops(1, 0)", x.loops(1, 0), 1);
        edge.is("loops(1, 1)", x.loops(1, 1), 1);
        edge.is("loops(30, 0)", x.loops(30, 0), 1860498);
        edge.is("loops(30, 1)", x.loops(30, 1), 1860498 - 1364 - 123 - 18 + 11 + 4 + 3 - 1);
        edge.is("loops(1, 0) where it covers none", Due.led("00").loops(1, 0), 0);
        edge.is("loops(30, 0) where it covers none", Due.led("00").loops(30, 0), 0);
        edge.is("loops(8, 0), round the widest circle", Due.onCircle("12345670").loops(8, 0), 8);
    }

    @Says(promise = 12, words = "Each beginning of a LOOP counts.")
    static void eachBeginningCounts(Edge edge) {
        ForcedRings x = Due.led("210");
        edge.is("loops(2, 0), two pieces in turn", x.loops(2, 0), 2);
        edge.is("loops(2, 1), two pieces in turn", x.loops(2, 1), 2);
        edge.is("loops(7, 1), round seven of a circle", Due.onCircle("1234560").loops(7, 1), 7);
    }

    @Says(promise = 12, words = "(as a row of m PIECES; it may begin at any of these: each beginning is one of its own)")
    static void theSameRowByEachBeginning(Edge edge) {
        // Piece 0 covers 1, 1 covers 0 and 1: the row 0 1 1 of three beginnings, and 1 1 1 of just one.
        ForcedRings x = Due.led("120");
        edge.is("loops(3, 0)", x.loops(3, 0), 3 + 1);
        edge.is("loops(3, 1)", x.loops(3, 1), 3);
        // Of four: 0 1 1 1 of four, 0 1 0 1 of two, 1 1 1 1 of one.
        edge.is("loops(4, 0)", x.loops(4, 0), 4 + 2 + 1);
        edge.is("loops(4, 1)", x.loops(4, 1), 4);
    }

    @Says(promise = 12, words = "SIMPLE: a LOOP that isn't a shorter one several times.")
    static void aShorterOneSeveralTimes(Edge edge) {
        ForcedRings still = Due.led("01");
        edge.is("loops(1, 1)", still.loops(1, 1), 1);
        for (int m = 2; m <= 30; m++) {
            edge.is("loops(" + m + ", 0)", still.loops(m, 0), 1);
            edge.is("loops(" + m + ", 1)", still.loops(m, 1), 0);
        }
        ForcedRings turns = Due.led("210");
        edge.is("loops(4, 0), of two twice", turns.loops(4, 0), 2);
        edge.is("loops(4, 1), of two twice", turns.loops(4, 1), 0);
        edge.is("loops(30, 1), of two fifteen times", turns.loops(30, 1), 0);
        ForcedRings round = Due.onCircle("123450");
        edge.is("loops(6, 1), round six", round.loops(6, 1), 6);
        edge.is("loops(12, 0), twice round six", round.loops(12, 0), 6);
        edge.is("loops(12, 1), twice round six", round.loops(12, 1), 0);
    }

    @Says(promise = 12, words = "How many LOOPS of m (what 0), SIMPLE ones (1) (longs that wrap).")
    static void loopsThatWrap(Edge edge) {
        ForcedRings x = Due.led(ALL_COVER_ALL);
        edge.is("loops(22, 0), the last that don't wrap", x.loops(22, 0), 3909821048582988049L);
        edge.is("loops(22, 1)", x.loops(22, 1), 3909821046605661264L);
        edge.is("loops(23, 0)", x.loops(23, 0), 8922003266371364727L);
        edge.is("loops(23, 1)", x.loops(23, 1), 8922003266371364720L);
        edge.is("loops(28, 0), below 0", x.loops(28, 0), -1473677281418119775L);
        edge.is("loops(30, 0)", x.loops(30, 0), 1576789505350337489L);
        edge.is("loops(30, 1)", x.loops(30, 1), 1576784757506251840L);
    }

    @Says(promise = 12, words = "SIMPLE ones (1) (longs that wrap). NO: m, what.")
    static void noSuchLoops(Edge edge) {
        for (int bad : new int[] {0, 31, -1, 32, Edge.LEAST, Edge.MOST}) {
            edge.refused("loops(" + bad + ", 0)", Edge.NO, x -> x.loops(bad, 0));
            edge.refused("loops(" + bad + ", 1)", Edge.NO, x -> x.loops(bad, 1));
        }
        for (int bad : new int[] {-1, 2, Edge.LEAST, Edge.MOST}) {
            edge.refused("loops(1, " + bad + ")", Edge.NO, x -> x.loops(1, bad));
            edge.refused("loops(30, " + bad + ")", Edge.NO, x -> x.loops(30, bad));
        }
    }

    // ---- 13 forced

    @Says(promise = 13, words = "FORCED is a number m (1 .. 12)")
    static void theLeastNumberAndTheGreatest(Edge edge) {
        ForcedRings all = Due.led("120");
        edge.is("forced(1)", all.forced(1), 1);
        edge.is("forced(12)", all.forced(12), 1);
        ForcedRings round = Due.onCircle("120");
        edge.is("forced(1) round a circle of 3", round.forced(1), 0);
        edge.is("forced(12), four times round it", round.forced(12), 0);
    }

    @Says(promise = 13, words = "A point LED to itself FORCES 1.")
    static void aPointLedToItself(Edge edge) {
        edge.is("forced(1) where no piece covers any", Due.led("00").forced(1), 1);
        edge.is("loops(1, 0) there", Due.led("00").loops(1, 0), 0);
        edge.is("forced(2) there", Due.led("00").forced(2), 0);
        edge.is("forced(1) on a circle", Due.onCircle("11").forced(1), 1);
        edge.is("forced(1) on a circle where none is", Due.onCircle("10").forced(1), 0);
    }

    @Says(promise = 13, words = "if there is a SIMPLE LOOP of m, or a RING of m points.")
    static void onlyALoopOrOnlyARing(Edge edge) {
        edge.is("forced(2) by a ring alone", Due.led("10").forced(2), 1);
        edge.is("no simple loop there", Due.led("10").loops(2, 1), 0);
        edge.is("forced(2) by a loop alone", Due.led("020").forced(2), 1);
        edge.is("only rings of 1 there", Due.led("020").rings(2), 1);
        edge.is("forced(8) by the widest ring", Due.onCircle("12345670").forced(8), 1);
        edge.is("forced(7) there", Due.onCircle("12345670").forced(7), 0);
    }

    @Says(promise = 13, words = "if there is a SIMPLE LOOP of m, or a RING of m points.")
    static void aRingOfEachSize(Edge edge) {
        // A ring of 2 that is less than one of 1, and no simple loop of 2.
        edge.is("forced(2), the ring ahead of one of 1", Due.led("102").forced(2), 1);
        edge.is("forced(1), the ring behind one of 2", Due.led("102").forced(1), 1);
        edge.is("no simple loop of 2 there", Due.led("102").loops(2, 1), 0);
        edge.is("allForced() of 102", Due.led("102").allForced(), 6);
        edge.is("allForced() of 1032, twice a ring of 2", Due.led("1032").allForced(), 6);
    }

    @Says(promise = 13, words = "`int forced(int m)`: Whether m is FORCED: 1, 0. BAD.")
    static void noSuchNumberToForce(Edge edge) {
        for (int bad : new int[] {0, 13, -1, 30, Edge.LEAST, Edge.MOST}) {
            edge.refused("forced(" + bad + ")", Edge.BAD, x -> x.forced(bad));
        }
    }

    // ---- 14 allForced

    @Says(promise = 14, words = "`int allForced()`: All FORCED numbers 1 .. 12 (bits 1 .. 12).")
    static void neither0Nor13(Edge edge) {
        edge.is("allForced() where each is", Due.led("120").allForced(), 8190);
        edge.is("allForced() of all paths", Due.led(ALL_COVER_ALL).allForced(), 8190);
        edge.is("allForced() where 1 alone is", Due.led("00").allForced(), 2);
        edge.is("allForced() on a circle, of 8 alone", Due.onCircle("12345670").allForced(), 256);
        edge.is("allForced() of 12 and what is behind it", Due.led("345120").allForced() >> 12, 1);
    }

    // ---- 15 ahead

    @Says(promise = 15, words = "Whether a is AHEAD of b (1, 0; 0 of like ones).")
    static void likeOnes(Edge edge) {
        ForcedRings x = new ForcedRings();
        for (int a = 1; a <= 99; a++) {
            edge.is("ahead(" + a + ", " + a + ")", x.ahead(a, a), 0);
        }
    }

    @Says(promise = 15, words = "AHEAD: the old order: 3, 5, 7, .. ; then twice these; then four times these; and so on; at last .. 8, 4, 2, 1.")
    static void theEndsOfEachRow(Edge edge) {
        int[] ordered = {3, 99, 6, 98, 12, 92, 24, 88, 48, 80, 96, 64, 32, 2, 1};
        ForcedRings x = new ForcedRings();
        for (int i = 0; i < ordered.length; i++) {
            for (int j = 0; j < ordered.length; j++) {
                String call = "ahead(" + ordered[i] + ", " + ordered[j] + ")";
                edge.is(call, x.ahead(ordered[i], ordered[j]), i < j ? 1 : 0);
            }
        }
    }

    @Says(promise = 15, words = "(Of m, its part that is odd and the power of 2: odd parts above 1 by lesser powers, then by lesser parts;")
    static void lesserPowersAheadOfLesserParts(Edge edge) {
        ForcedRings x = new ForcedRings();
        edge.is("ahead(99, 6), the power alone", x.ahead(99, 6), 1);
        edge.is("ahead(6, 99)", x.ahead(6, 99), 0);
        edge.is("ahead(97, 99), the part alone", x.ahead(97, 99), 1);
        edge.is("ahead(99, 97)", x.ahead(99, 97), 0);
        edge.is("ahead(80, 96), the greatest power with one more above it", x.ahead(80, 96), 1);
        edge.is("ahead(96, 80)", x.ahead(96, 80), 0);
        edge.is("ahead(3, 1), the least odd part above 1", x.ahead(3, 1), 1);
        edge.is("ahead(1, 3)", x.ahead(1, 3), 0);
    }

    @Says(promise = 15, words = "those of odd part 1 behind all others, the greater first.")
    static void powersOf2BehindAllOthers(Edge edge) {
        ForcedRings x = new ForcedRings();
        edge.is("ahead(96, 64)", x.ahead(96, 64), 1);
        edge.is("ahead(64, 96)", x.ahead(64, 96), 0);
        edge.is("ahead(99, 1)", x.ahead(99, 1), 1);
        edge.is("ahead(1, 99)", x.ahead(1, 99), 0);
        for (int power = 64; power > 1; power /= 2) {
            edge.is("ahead(" + power + ", " + power / 2 + ")", x.ahead(power, power / 2), 1);
            edge.is("ahead(" + power / 2 + ", " + power + ")", x.ahead(power / 2, power), 0);
        }
    }

    @Says(promise = 15, words = "BAD: a, b (1 .. 99).")
    static void noNumbersOfTheOrder(Edge edge) {
        ForcedRings x = new ForcedRings();
        edge.is("ahead(1, 99)", x.ahead(1, 99), 0);
        edge.is("ahead(99, 1)", x.ahead(99, 1), 1);
        for (int bad : new int[] {0, 100, -1, 128, Edge.LEAST, Edge.MOST}) {
            edge.refused("ahead(" + bad + ", 1)", Edge.BAD, y -> y.ahead(bad, 1));
            edge.refused("ahead(1, " + bad + ")", Edge.BAD, y -> y.ahead(1, bad));
            edge.refused("ahead(" + bad + ", " + bad + ")", Edge.BAD, y -> y.ahead(bad, bad));
        }
    }

    // ---- 16 order

    @Says(promise = 16, words = "Old places are told from 0 on by both ways.")
    static void fromTheFirstPlaceToTheLast(Edge edge) {
        ForcedRings x = new ForcedRings();
        edge.is("order(0, 0)", x.order(0, 0), 3);
        edge.is("order(11, 0)", x.order(11, 0), 1);
        edge.is("order(3, 1)", x.order(3, 1), 0);
        edge.is("order(1, 1)", x.order(1, 1), 11);
        edge.is("order(12, 1)", x.order(12, 1), 7);
        for (int place = 0; place < 12; place++) {
            edge.is("the place of the number at " + place, x.order(x.order(place, 0), 1), place);
        }
    }

    @Says(promise = 16, words = "Place i (from 0) of the numbers 1 .. 12 in the old order; of number m its place (way 1).")
    static void onlyTheNumbers1To12HavePlaces(Edge edge) {
        int[] ordered = {3, 5, 7, 9, 11, 6, 10, 12, 8, 4, 2, 1};
        ForcedRings x = new ForcedRings();
        for (int place = 0; place < ordered.length; place++) {
            edge.is("order(" + place + ", 0)", x.order(place, 0), ordered[place]);
            edge.is("order(" + ordered[place] + ", 1)", x.order(ordered[place], 1), place);
        }
    }

    @Says(promise = 16, words = "BAD: i (0 .. 11; way 1: 1 .. 12), way.")
    static void noSuchPlaceNoSuchNumberNoSuchWay(Edge edge) {
        for (int bad : new int[] {-1, 12, 13, Edge.LEAST, Edge.MOST}) {
            edge.refused("order(" + bad + ", 0)", Edge.BAD, x -> x.order(bad, 0));
        }
        for (int bad : new int[] {0, 13, -1, Edge.LEAST, Edge.MOST}) {
            edge.refused("order(" + bad + ", 1)", Edge.BAD, x -> x.order(bad, 1));
        }
        for (int bad : new int[] {-1, 2, Edge.LEAST, Edge.MOST}) {
            edge.refused("order(1, " + bad + ")", Edge.BAD, x -> x.order(1, bad));
            edge.refused("order(11, " + bad + ")", Edge.BAD, x -> x.order(11, bad));
        }
    }
}
