/** Promises 17 to 20, at the boundary cases that the document names. */
public final class EdgesOfPatternsTest {
    /** Seven pieces on a line, each of which covers all seven: every pattern is there. */
    private static final String ALL_COVER_ALL = "07070707";

    public static void main(String[] args) {
        Edges.run(EdgesOfPatternsTest.class, 17, 20);
    }

    // ---- 17 pattern

    /** Each pattern of m, in order, and that there is none behind the last one. */
    private static void patterns(Edge edge, String figures, int m, int... wanted) {
        ForcedRings x = Due.led(figures);
        String call = figures + ": pattern(" + m + ", ";
        edge.is(call + "-1)", x.pattern(m, -1), wanted.length);
        for (int k = 0; k < wanted.length; k++) {
            edge.is(call + k + ")", x.pattern(m, k), wanted[k]);
        }
        edge.is(call + wanted.length + ")", x.pattern(m, wanted.length), Edge.NONE);
        edge.is(call + "most)", x.pattern(m, Edge.MOST), Edge.NONE);
    }

    @Says(promise = 17, words = "On a line, of a SIMPLE LOOP p0 .. pm-1 of m (2 .. 6)")
    static void theShortestPatternAndTheLongest(Edge edge) {
        patterns(edge, "120", 2, 10);
        ForcedRings x = Due.led(ALL_COVER_ALL);
        edge.is("pattern(6, -1)", x.pattern(6, -1), 120);
        edge.is("pattern(6, 0)", x.pattern(6, 0), 123450);
        edge.is("pattern(6, 119)", x.pattern(6, 119), 543102);
        edge.is("pattern(6, 120)", x.pattern(6, 120), Edge.NONE);
    }

    @Says(promise = 17, words = "PATTERNS of m: the k-th, from 0; how many (k -1). BAD: m, k below -1; STATE: WAY is 1; NONE: no such one.")
    static void noPatternAtAllAndNoneBehindTheLast(Edge edge) {
        for (int m = 2; m <= 6; m++) {
            patterns(edge, "01234567", m);
            patterns(edge, "00", m);
        }
        patterns(edge, "120", 3, 120);
        edge.refused("pattern(2, 1) behind the only one", Edge.NONE, x -> x.pattern(2, 1));
        edge.refused("pattern(3, 0) where there is none", Edge.NONE, x -> x.pattern(3, 0));
        edge.refused("pattern(6, most)", Edge.NONE, x -> x.pattern(6, Edge.MOST));
    }

    @Says(promise = 17, words = "BAD: m, k below -1; STATE: WAY is 1; NONE: no such one.")
    static void noSuchLengthAndTooLittleK(Edge edge) {
        for (int bad : new int[] {1, 7, 0, -1, Edge.LEAST, Edge.MOST}) {
            edge.refused("pattern(" + bad + ", 0)", Edge.BAD, x -> x.pattern(bad, 0));
            edge.refused("pattern(" + bad + ", -1)", Edge.BAD, x -> x.pattern(bad, -1));
            edge.refused("BAD is ahead of NONE: pattern(" + bad + ", 99)", Edge.BAD, x -> x.pattern(bad, 99));
        }
        for (int bad : new int[] {-2, -3, Edge.LEAST}) {
            edge.refused("pattern(2, " + bad + ")", Edge.BAD, x -> x.pattern(2, bad));
            edge.refused("pattern(6, " + bad + ")", Edge.BAD, x -> x.pattern(6, bad));
        }
    }

    @Says(promise = 17, words = "BAD: m, k below -1; STATE: WAY is 1; NONE: no such one.")
    static void badAheadOfStateAheadOfNone(Edge edge) {
        Twins.Call circle = x -> x.way(1);
        edge.refusedBehind(circle, "pattern(1, 0) on a circle", Edge.BAD, x -> x.pattern(1, 0));
        edge.refusedBehind(circle, "pattern(7, 0) on a circle", Edge.BAD, x -> x.pattern(7, 0));
        edge.refusedBehind(circle, "pattern(3, -2) on a circle", Edge.BAD, x -> x.pattern(3, -2));
        edge.refusedBehind(circle, "pattern(2, 0) on a circle", Edge.STATE, x -> x.pattern(2, 0));
        edge.refusedBehind(circle, "pattern(6, -1) on a circle", Edge.STATE, x -> x.pattern(6, -1));
        edge.refusedBehind(circle, "pattern(2, 99) on a circle", Edge.STATE, x -> x.pattern(2, 99));
    }

    @Says(promise = 17, words = "PATTERNS of m: those of all SIMPLE LOOPS of m, and of all RINGS of m points (each once), rising as numbers")
    static void eachOnceAndRising(Edge edge) {
        // Two rings of 2; a ring of 3 and the loops that it forces; all that there can be of 3 and of 4.
        patterns(edge, "2301", 2, 10);
        patterns(edge, "120", 3, 120);
        patterns(edge, ALL_COVER_ALL, 3, 120, 201);
        patterns(edge, ALL_COVER_ALL, 4, 1230, 1302, 2031, 2310, 3012, 3201);
    }

    /** Each pattern of m that there can be, rising; how many these are. */
    private static int compareAll(Edge edge, ForcedRings x, int m) {
        int k = 0;
        int end = 1;
        for (int i = 0; i < m; i++) {
            end *= 10;
        }
        for (int figures = 0; figures < end; figures++) {
            if (isOneRing(m, figures)) {
                edge.is("pattern(" + m + ", " + k + ")", x.pattern(m, k), figures);
                k++;
            }
        }
        edge.is("pattern(" + m + ", -1)", x.pattern(m, -1), k);
        edge.is("pattern(" + m + ", " + k + ")", x.pattern(m, k), Edge.NONE);
        return k;
    }

    /** Whether these figures, m of them, lead round all numbers below m. */
    private static boolean isOneRing(int m, int figures) {
        int[] led = new int[m];
        int rest = figures;
        for (int i = m - 1; i >= 0; i--) {
            led[i] = rest % 10;
            rest /= 10;
        }
        int steps = 0;
        int at = 0;
        do {
            at = led[at];
            steps++;
        } while (at != 0 && at < m && steps < m);
        return at == 0 && steps == m;
    }

    @Says(promise = 17, words = "(each once), rising as numbers")
    static void allThatThereCanBeOfOneObject(Edge edge) {
        int[] most = {0, 0, 1, 2, 6, 24, 120};
        ForcedRings x = Due.led(ALL_COVER_ALL);
        for (int m = 2; m <= 6; m++) {
            edge.is("as many as there can be of " + m, compareAll(edge, x, m), most[m]);
        }
        // Those of one m are still there when those of the others have been asked.
        for (int m = 2; m <= 4; m++) {
            compareAll(edge, x, m);
        }
        edge.is("pattern(5, 0)", x.pattern(5, 0), 12340);
        edge.is("pattern(5, 23)", x.pattern(5, 23), 43102);
        edge.is("pattern(6, 0)", x.pattern(6, 0), 123450);
        edge.is("pattern(6, 119)", x.pattern(6, 119), 543102);
    }

    @Says(promise = 17, words = "PATTERNS of m: those of all SIMPLE LOOPS of m, and of all RINGS of m points")
    static void nothingOfTheMapAheadOfAChange(Edge edge) {
        String[] maps = {"1203", "0312", "1203", "0123", "3120", "0012", "2310", "2301", "1131", "0000"};
        ForcedRings x = new ForcedRings();
        x.points(4);
        for (String figures : maps) {
            for (int i = 0; i < 4; i++) {
                x.lead(i, figures.charAt(i) - '0');
            }
            ForcedRings fresh = Due.led(figures);
            for (int m = 2; m <= 6; m++) {
                int all = fresh.pattern(m, -1);
                edge.is(figures + ": pattern(" + m + ", -1)", x.pattern(m, -1), all);
                edge.is(figures + ": pattern(" + m + ", 0)", x.pattern(m, 0), fresh.pattern(m, 0));
                edge.is(figures + ": the last of " + m, x.pattern(m, all), Edge.NONE);
            }
        }
        x.lead(0, 1);
        x.lead(1, 2);
        edge.is("pattern(3, 0) of 1200", x.pattern(3, 0), 120);
        x.points(2);
        edge.is("pattern(3, 0) of 01", x.pattern(3, 0), Edge.NONE);
    }

    @Says(promise = 17, words = "those of all SIMPLE LOOPS of m")
    static void aLoopOfTheLastPiecesAlone(Edge edge) {
        // All pieces but the last two cover none; these two cover both of them.
        patterns(edge, "1131", 2, 10);
        patterns(edge, "1131", 3, 120);
        patterns(edge, "1131", 4, 1230, 2310);
        patterns(edge, "55555575", 3, 120);
        patterns(edge, "55555575", 4, 1230, 2310);
    }

    @Says(promise = 17, words = "rising as numbers (of m 2: 10 alone)")
    static void of2OneAlone(Edge edge) {
        patterns(edge, ALL_COVER_ALL, 2, 10);
        patterns(edge, "10", 2, 10);
        patterns(edge, "020", 2, 10);
        patterns(edge, "012", 2);
    }

    @Says(promise = 17, words = "those of all SIMPLE LOOPS of m, and of all RINGS of m points")
    static void onlyLoopsOrOnlyARing(Edge edge) {
        // No ring of 3, but simple loops of 3; a ring of 4, but no simple loop of 4; the same of 2.
        patterns(edge, "020", 3, 120);
        patterns(edge, "2310", 4, 2310);
        edge.is("2310: loops(4, 1)", Due.led("2310").loops(4, 1), 0);
        patterns(edge, "10", 2, 10);
        edge.is("10: loops(2, 1)", Due.led("10").loops(2, 1), 0);
        // A ring of 3 with points between.
        patterns(edge, "21430567", 3, 120);
        // The simple loop of 1 six times is no simple one of 6; a ring of 2 is no ring of 4.
        patterns(edge, "01", 6);
        patterns(edge, "2301", 4);
    }

    @Says(promise = 17, words = "the figures of where each is LED to (ROW i to ROW i + 1, the last one to ROW 0), number 0's the highest.")
    static void theLastRowIsLedToTheFirst(Edge edge) {
        // Piece 0 covers 1, 1 covers 0 and 1: the loop 0 1 1 is the one of 3.
        patterns(edge, "120", 3, 120);
        patterns(edge, "201", 3, 201);
        patterns(edge, "24310", 5, 24310);
    }

    @Says(promise = 17, words = "if an even number of PIECES ahead of that place FALLS; else the other one.")
    static void noneOneAndTwoThatFallAhead(Edge edge) {
        // Piece 0 rises, 1 falls, each covers both. The loop 0 0 0 1 asks only of rows that begin by rising ones;
        // the loop 0 1 1 has rows that are otherwise behind one that falls, the loop 0 1 1 1 behind two.
        patterns(edge, "020", 2, 10);
        patterns(edge, "020", 3, 120);
        patterns(edge, "020", 4, 1230, 2310);
        // The other way round: piece 0 falls, 1 rises.
        patterns(edge, "202", 3, 201);
        patterns(edge, "202", 4, 3012, 3201);
    }

    @Says(promise = 17, words = "Of two ROWS that one is less whose PIECE is less at the first place at which they are otherwise,")
    static void rowsThatAreOtherwiseAtTheirLastPlaceAlone(Edge edge) {
        // The loop 0 0 0 0 0 1 of rising pieces, 1 1 1 1 1 0 of falling ones, and all between.
        patterns(edge, "020", 5, 12340, 13420, 24310);
        patterns(edge, "020", 6, 123450, 124530, 135420, 234510, 354210);
        patterns(edge, "202", 5, 40123, 42013, 43102);
        patterns(edge, "202", 6, 501234, 520134, 531024, 540123, 543102);
    }

    @Says(promise = 17, words = "PATTERN of a RING of m points: points numbered so by how many points of it are less.")
    static void aRingOfTheLastPoints(Edge edge) {
        patterns(edge, "00000576", 2, 10);
        patterns(edge, "00000756", 3, 201);
        patterns(edge, "00000567", 2);
    }

    // ---- 18 has

    @Says(promise = 18, words = "Whether the PATTERN of m with these figures is one of PATTERNS: 1, 0.")
    static void figuresOfNoPattern(Edge edge) {
        ForcedRings x = Due.led(ALL_COVER_ALL);
        edge.is("has(2, 10)", x.has(2, 10), 1);
        edge.is("has(6, 123450), the least", x.has(6, 123450), 1);
        edge.is("has(6, 543102), the greatest", x.has(6, 543102), 1);
        edge.is("has(6, 123449)", x.has(6, 123449), 0);
        edge.is("has(6, 543103)", x.has(6, 543103), 0);
        edge.is("has(6, 103254), of three rings", x.has(6, 103254), 0);
        edge.is("has(5, 123450), of 6", x.has(5, 123450), 0);
        for (int none : new int[] {0, -1, -10, 1, 11, 1000000, Edge.LEAST, Edge.MOST}) {
            edge.is("has(2, " + none + ")", x.has(2, none), 0);
            edge.is("has(6, " + none + ")", x.has(6, none), 0);
        }
        edge.is("has(2, 10) where there is none", Due.led("01").has(2, 10), 0);
    }

    @Says(promise = 18, words = "is one of PATTERNS: 1, 0. BAD: m; STATE: WAY is 1.")
    static void badAheadOfState(Edge edge) {
        for (int bad : new int[] {1, 7, 0, -1, Edge.LEAST, Edge.MOST}) {
            edge.refused("has(" + bad + ", 10)", Edge.BAD, x -> x.has(bad, 10));
            edge.refusedBehind(x -> x.way(1), "has(" + bad + ", 10) on a circle", Edge.BAD, x -> x.has(bad, 10));
        }
        edge.refusedBehind(x -> x.way(1), "has(2, 10) on a circle", Edge.STATE, x -> x.has(2, 10));
        edge.refusedBehind(x -> x.way(1), "has(6, -1) on a circle", Edge.STATE, x -> x.has(6, -1));
    }

    // ---- 19 growth

    private static void fractions(Edge edge, ForcedRings x, int k, long... wanted) {
        String call = x.map() + ": growth(" + k + ", ";
        edge.is(call + "0, 0)", x.growth(k, 0, 0), wanted[0]);
        edge.is(call + "0, 1)", x.growth(k, 0, 1), wanted[1]);
        edge.is(call + "1, 0)", x.growth(k, 1, 0), wanted[2]);
        edge.is(call + "1, 1)", x.growth(k, 1, 1), wanted[3]);
    }

    @Says(promise = 19, words = "GROWTH at k (0 .. 10): COUNT of a PIECE at 0 is 1, at k + 1 those at k of all PIECES that it COVERS, together")
    static void theFirstGrowthAndTheLast(Edge edge) {
        // The counts are 1 1, 1 2, 2 3, 3 5, .. 89 144, 144 233.
        fractions(edge, Due.led("120"), 0, 1, 1, 2, 1);
        fractions(edge, Due.led("120"), 10, 144, 89, 233, 144);
    }

    @Says(promise = 19, words = "the least and the greatest of these fractions (in lowest terms; NO: there is no such PIECE)")
    static void inLowestTerms(Edge edge) {
        fractions(edge, Due.led(ALL_COVER_ALL), 0, 7, 1, 7, 1);
        fractions(edge, Due.led(ALL_COVER_ALL), 10, 7, 1, 7, 1);
        fractions(edge, Due.onCircle("021"), 10, 2, 1, 2, 1);
        // Counts 8 8 6 behind two steps, then 22 22 16.
        fractions(edge, Due.led("0302"), 2, 8, 3, 11, 4);
        // Piece 2 covers two that cover none: 0 by 2.
        fractions(edge, Due.led("0002"), 1, 0, 1, 0, 1);
        fractions(edge, Due.led("01"), 10, 1, 1, 1, 1);
    }

    @Says(promise = 19, words = "the least fraction (what 0), the greatest (1): part 0 above, 1 below the line.")
    static void theLeastIsTheGreatestOfOnePiece(Edge edge) {
        for (int k = 0; k <= 10; k++) {
            fractions(edge, Due.led("10"), k, 1, 1, 1, 1);
            fractions(edge, Due.onCircle("10"), k, 1, 1, 1, 1);
        }
        // Of two pieces the first is the least, then the other way round.
        fractions(edge, Due.led("120"), 0, 1, 1, 2, 1);
        fractions(edge, Due.led("201"), 0, 1, 1, 2, 1);
    }

    @Says(promise = 19, words = "of all PIECES whose COUNT at k is above 0 COUNT at k + 1 by COUNT at k")
    static void countsOf0AreLeftOut(Edge edge) {
        // Piece 0 covers none, 1 covers 0, 2 covers 1: counts 1 1 1, 0 1 1, 0 0 1, 0 0 0.
        ForcedRings x = Due.led("0012");
        fractions(edge, x, 0, 0, 1, 1, 1);
        fractions(edge, x, 1, 0, 1, 1, 1);
        fractions(edge, x, 2, 0, 1, 0, 1);
        // Piece 0 covers none, 1 covers itself: 0 is left out from 1 on.
        fractions(edge, Due.led("112"), 0, 0, 1, 1, 1);
        fractions(edge, Due.led("112"), 1, 1, 1, 1, 1);
    }

    @Says(promise = 19, words = "GROWTH is NO where all COUNTS are 0.")
    static void allCountsAre0(Edge edge) {
        ForcedRings x = Due.led("0012");
        ForcedRings none = Due.led("00");
        for (int what = 0; what <= 1; what++) {
            for (int part = 0; part <= 1; part++) {
                String asked = what + ", " + part + ")";
                edge.is("0012: growth(2, " + asked, x.growth(2, what, part), part);
                edge.is("0012: growth(3, " + asked, x.growth(3, what, part), Edge.NO);
                edge.is("0012: growth(10, " + asked, x.growth(10, what, part), Edge.NO);
                edge.is("00: growth(0, " + asked, none.growth(0, what, part), part);
                edge.is("00: growth(1, " + asked, none.growth(1, what, part), Edge.NO);
            }
        }
        edge.refusedBehind(y -> y.points(2) + y.lead(1, 0), "growth(1, 0, 0)", Edge.NO, y -> y.growth(1, 0, 0));
    }

    @Says(promise = 19, words = "part 0 above, 1 below the line. NO: k, what, part, none.")
    static void noSuchGrowth(Edge edge) {
        for (int bad : new int[] {-1, 11, 12, Edge.LEAST, Edge.MOST}) {
            edge.refused("growth(" + bad + ", 0, 0)", Edge.NO, x -> x.growth(bad, 0, 0));
        }
        for (int bad : new int[] {-1, 2, Edge.LEAST, Edge.MOST}) {
            edge.refused("growth(0, " + bad + ", 0)", Edge.NO, x -> x.growth(0, bad, 0));
            edge.refused("growth(10, 1, " + bad + ")", Edge.NO, x -> x.growth(10, 1, bad));
        }
    }

    // ---- 20 polynomial

    private static void numbers(Edge edge, ForcedRings x, long... wanted) {
        String call = x.map() + ": polynomial(";
        for (int k = 0; k < wanted.length; k++) {
            edge.is(call + k + ")", x.polynomial(k), wanted[k]);
        }
        edge.is(call + "-1)", x.polynomial(-1), Edge.NO);
        edge.is(call + wanted.length + ")", x.polynomial(wanted.length), Edge.NO);
    }

    @Says(promise = 20, words = "its number by t k times multiplied (k 0 .. number of PIECES).")
    static void asManyAsThereArePiecesAndOneMore(Edge edge) {
        for (int n = 2; n <= 8; n++) {
            ForcedRings x = new ForcedRings();
            x.points(n);
            edge.is("n " + n + " on a line: polynomial(n - 1)", x.polynomial(n - 1), 1);
            edge.is("n " + n + " on a line: polynomial(n)", x.polynomial(n), Edge.NO);
            x.way(1);
            edge.is("n " + n + " on a circle: polynomial(n)", x.polynomial(n), 1);
            edge.is("n " + n + " on a circle: polynomial(n + 1)", x.polynomial(n + 1), Edge.NO);
        }
    }

    @Says(promise = 20, words = "`long polynomial(int k)`: POLYNOMIAL: its number by t k times multiplied. NO: k.")
    static void noSuchPower(Edge edge) {
        for (int bad : new int[] {-1, 5, 8, 9, Edge.LEAST, Edge.MOST}) {
            edge.refused("polynomial(" + bad + ")", Edge.NO, x -> x.polynomial(bad));
        }
        edge.refusedBehind(x -> x.way(1), "polynomial(6) on a circle", Edge.NO, x -> x.polynomial(6));
    }

    @Says(promise = 20, words = "POLYNOMIAL tells the number at t to the k.")
    static void theNumberWithoutTAndTheHighest(Edge edge) {
        // t t - t - 1; t less 1 three times multiplied; t to the 7th - 7 times t to the 6th.
        numbers(edge, Due.led("120"), -1, -1, 1);
        numbers(edge, Due.led("0123"), -1, 3, -3, 1);
        numbers(edge, Due.led(ALL_COVER_ALL), 0, 0, 0, 0, 0, 0, -7, 1);
    }

    @Says(promise = 20, words = "in row i and column j t less 1, if i is j and COVERS itself; t, if it is j and doesn't; -1, if i COVERS j otherwise; else 0")
    static void eachPlaceOfTheTable(Edge edge) {
        numbers(edge, Due.led("01"), -1, 1);
        numbers(edge, Due.led("00"), 0, 1);
        // Each covers the other alone: t t - 1. Round the widest circle: t to the 8th less 1.
        numbers(edge, Due.led("210"), -1, 0, 1);
        numbers(edge, Due.onCircle("12345670"), -1, 0, 0, 0, 0, 0, 0, 0, 1);
        // Piece 0 covers none, 1 covers 0 alone.
        numbers(edge, Due.led("001"), 0, 0, 1);
    }
}
