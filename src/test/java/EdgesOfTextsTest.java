/** Promises 22 to 24, at the boundary cases that the document names. */
public final class EdgesOfTextsTest {
    public static void main(String[] args) {
        Edges.run(EdgesOfTextsTest.class, 22, 24);
    }

    // ---- 22 feed

    private static ForcedRings withTape(int bytes) {
        ForcedRings x = new ForcedRings();
        for (int i = 0; i < bytes; i++) {
            x.feed('(');
        }
        return x;
    }

    @Says(promise = 22, words = "THE TAPE (60 bytes, 0 .. 127)")
    static void theLeastByteAndTheGreatest(Edge edge) {
        ForcedRings x = new ForcedRings();
        edge.is("feed(0)", x.feed(0), 1);
        edge.is("feed(127)", x.feed(127), 2);
        edge.is("count(4)", x.count(4), 2);
    }

    @Says(promise = 22, words = "`int feed(int letter)`: A byte comes behind THE TAPE: how many it has. BAD; FULL.")
    static void noSuchByte(Edge edge) {
        for (int bad : new int[] {-1, 128, 255, 256 + '(', Edge.LEAST, Edge.MOST}) {
            edge.refused("feed(" + bad + ")", Edge.BAD, x -> x.feed(bad));
        }
    }

    @Says(promise = 22, words = "THE TAPE (60 bytes, 0 .. 127)")
    static void theLastByteAndOneMore(Edge edge) {
        ForcedRings x = withTape(59);
        edge.is("feed(40), the 60th", x.feed('('), 60);
        edge.is("feed(40), the 61st", x.feed('('), Edge.FULL);
        edge.is("feed(40), once more", x.feed('('), Edge.FULL);
        edge.is("count(4)", x.count(4), 60);
    }

    @Says(promise = 22, words = "Refusals, the first that the call's words name; they change nothing (but THE TAPE, where told): BAD (-2: a number is none such or not as told), STATE (-3), FULL (-4)")
    static void fullChangesNothing(Edge edge) {
        Twins.Call fill = x -> {
            for (int i = x.count(4); i < 60; i++) {
                x.feed('0');
            }
            return 0;
        };
        edge.refusedBehind(fill, "feed(41)", Edge.FULL, x -> x.feed(')'));
        edge.refusedBehind(fill, "feed(0)", Edge.FULL, x -> x.feed(0));
        edge.refusedBehind(fill, "feed(127)", Edge.FULL, x -> x.feed(127));
    }

    @Says(promise = 22, words = "how many it has. BAD; FULL.")
    static void badAheadOfFull(Edge edge) {
        ForcedRings x = withTape(60);
        edge.is("feed(-1)", x.feed(-1), Edge.BAD);
        edge.is("feed(128)", x.feed(128), Edge.BAD);
        edge.is("feed(127)", x.feed(127), Edge.FULL);
        edge.is("count(4)", x.count(4), 60);
    }

    // ---- 23 read

    private static void text(Edge edge, int n, String text, int rings, int map) {
        ForcedRings x = new ForcedRings();
        x.points(n);
        // Each is led further on: a text must lead back those that it has not.
        x.turn(1, 4, 1);
        edge.is(text + " of " + n + ": read()", Due.readText(x, text), rings);
        edge.is(text + " of " + n + ": map()", x.map(), map);
        edge.is(text + " of " + n + ": count(4)", x.count(4), 0);
        edge.is(text + " of " + n + ": count(3)", x.count(3), 2);
    }

    private static void fault(Edge edge, int n, String text, int place) {
        ForcedRings x = new ForcedRings();
        x.points(n);
        edge.is("\"" + text + "\" of " + n + ": read()", Due.readText(x, text), -100 - place);
        edge.is("\"" + text + "\" of " + n + ": count(4)", x.count(4), 0);
        edge.is("\"" + text + "\" of " + n + ": why(2)", x.why(2), place);
    }

    @Says(promise = 23, words = "RINGS, one or more: ( , points (a figure each) with blanks (just one) between, )")
    static void oneRingAndAsManyAsThereArePoints(Edge edge) {
        text(edge, 2, "(1)", 1, 1);
        text(edge, 2, "(1 0)", 1, 10);
        text(edge, 8, "(7)", 1, 1234567);
        text(edge, 8, "(0)(1)(2)(3)(4)(5)(6)(7)", 8, 1234567);
        text(edge, 8, "(0 1 2 3 4 5 6 7)", 1, 12345670);
    }

    @Says(promise = 23, words = "RINGS, one or more: ( , points (a figure each)")
    static void noRingAndNoPointInIt(Edge edge) {
        fault(edge, 3, "", 0);
        fault(edge, 3, "()", 1);
        fault(edge, 3, "(0)()", 4);
        fault(edge, 3, "(", 1);
    }

    @Says(promise = 23, words = "an empty TAPE has its FAULT at 0")
    static void anEmptyTape(Edge edge) {
        ForcedRings x = new ForcedRings();
        edge.is("read()", x.read(), -100);
        edge.is("read() once more", x.read(), -100);
        edge.is("read() behind a text", Due.readText(x, "(0)") + x.read(), 1 - 100);
        edge.is("read() behind a fault", Due.readText(x, "((") + x.read(), -101 - 100);
    }

    @Says(promise = 23, words = "In RINGS just one blank stands between two points, none elsewhere")
    static void noBlankTwoBlanksAndBlanksElsewhere(Edge edge) {
        fault(edge, 3, "(01)", 2);
        fault(edge, 3, "(0  1)", 3);
        fault(edge, 3, " (0)", 0);
        fault(edge, 3, "( 0)", 1);
        fault(edge, 3, "(0 )", 3);
        fault(edge, 3, "(0) ", 3);
        fault(edge, 3, "(0) (1)", 3);
    }

    @Says(promise = 23, words = ") , nothing between RINGS")
    static void betweenRings(Edge edge) {
        text(edge, 3, "(0)(1)", 2, 12);
        fault(edge, 3, "(0),(1)", 3);
        fault(edge, 3, "(0)1", 3);
        fault(edge, 3, "(0))", 3);
    }

    @Says(promise = 23, words = "each is LED to the next one, the last one to the first; points that no RING has are LED to themselves.")
    static void theLastToTheFirstAndTheOthersToThemselves(Edge edge) {
        text(edge, 8, "(7 0)", 1, 71234560);
        text(edge, 8, "(6 7 0)", 1, 61234570);
        text(edge, 4, "(2 1)", 1, 213);
        text(edge, 4, "(3)", 1, 123);
        text(edge, 4, "(3 0)(2 1)", 2, 3210);
    }

    @Says(promise = 23, words = "points that no RING has are LED to themselves.")
    static void nothingOfATextAheadIsLeft(Edge edge) {
        ForcedRings x = new ForcedRings();
        x.points(8);
        edge.is("the first text", Due.readText(x, "(0 1 2 3 4 5 6 7)"), 1);
        edge.is("a text of the last two", Due.readText(x, "(6 7)"), 1);
        edge.is("map()", x.map(), 1234576);
        edge.is("a fault", Due.readText(x, "(0 5)(1 4)("), -111);
        edge.is("a text of one", Due.readText(x, "(3)"), 1);
        edge.is("map()", x.map(), 1234567);
    }

    @Says(promise = 23, words = "FAULT: the place of the first byte that can't stand there (a figure that is no point, a point told already, too)")
    static void theFirstPointThatIsNone(Edge edge) {
        for (int n = 2; n <= 8; n++) {
            text(edge, n, "(" + (n - 1) + ")", 1, selves(n));
            fault(edge, n, "(" + n + ")", 1);
            fault(edge, n, "(0 " + n + ")", 3);
            fault(edge, n, "(0)(" + n + ")", 4);
        }
        fault(edge, 8, "(9)", 1);
        fault(edge, 8, "(/)", 1);
        fault(edge, 8, "(:)", 1);
    }

    private static int selves(int n) {
        int map = 0;
        for (int i = 0; i < n; i++) {
            map = map * 10 + i;
        }
        return map;
    }

    @Says(promise = 23, words = "a point told already is a FAULT at its figure.")
    static void aPointToldAlready(Edge edge) {
        fault(edge, 3, "(0 0)", 3);
        fault(edge, 3, "(0 1 0)", 5);
        fault(edge, 3, "(0)(0)", 4);
        fault(edge, 8, "(7)(6 7)", 6);
        // All points are told: the blank and the ( can stand there, the figure can't.
        fault(edge, 2, "(0 1 0)", 5);
        fault(edge, 2, "(0 1)(0)", 6);
        fault(edge, 8, "(0 1 2 3 4 5 6 7 7)", 17);
        fault(edge, 8, "(0)(1)(2)(3)(4)(5)(6)(7)(0)", 25);
    }

    @Says(promise = 23, words = "the size, if it ends too early.")
    static void endsTooEarly(Edge edge) {
        String whole = "(2 0)(1)";
        for (int size = 0; size < whole.length(); size++) {
            if (size != 5) {
                fault(edge, 3, whole.substring(0, size), size);
            }
        }
        text(edge, 3, whole.substring(0, 5), 1, 210);
        text(edge, 3, whole, 2, 210);
        fault(edge, 2, "(0 1)(", 6);
        fault(edge, 2, "(0 1 ", 5);
        fault(edge, 8, "(0)(1)(2)(3)(4)(5)(6)(7)(", 25);
    }

    @Says(promise = 23, words = "FAULT: the place of the first byte that can't stand there")
    static void aFullTape(Edge edge) {
        ForcedRings x = withTape(60);
        edge.is("read()", x.read(), -101);
        x.points(8);
        Due.feedAll(x, "(0)(1)(2)(3)(4)(5)(6)(7)(");
        for (int i = x.count(4); i < 60; i++) {
            x.feed('0');
        }
        edge.is("read() behind all that can stand there", x.read(), -125);
        for (int i = 0; i < 60; i++) {
            edge.is("feed(127), the tape is empty again", x.feed(127), i + 1);
        }
        edge.is("read()", x.read(), -100);
        for (int letter = 0; letter <= 127; letter++) {
            x = new ForcedRings();
            x.feed(letter);
            edge.is("read() of the byte " + letter, x.read(), letter == '(' ? -101 : -100);
        }
    }

    @Says(promise = 23, words = "THE TAPE, which is empty then (by a FAULT, too), is a TEXT: how many RINGS; -100 less the FAULT.")
    static void emptyBehindATextAndBehindAFault(Edge edge) {
        ForcedRings x = new ForcedRings();
        edge.is("read() of a text", Due.readText(x, "(0 1)"), 1);
        edge.is("count(4)", x.count(4), 0);
        edge.is("read() of a fault", Due.readText(x, "(0 1"), -104);
        edge.is("count(4)", x.count(4), 0);
        edge.is("feed(41), the first byte again", x.feed(')'), 1);
        edge.is("read(), nothing of the text ahead", x.read(), -100);
    }

    @Says(promise = 23, words = "read() that is no FAULT, each that is not refused (be anything otherwise by it or not)")
    static void aFaultChangesTheTapeAndWhyAlone(Edge edge) {
        for (String text : new String[] {"", "(", "(0 1 2)(", "(0 1 2) ", "(2 1)(0 3)", "(1)(2 x"}) {
            ForcedRings x = Due.led("201");
            int read = Due.readText(x, text);
            edge.is("\"" + text + "\" is a fault", read <= -100 ? 1 : 0, 1);
            edge.is("\"" + text + "\": map()", x.map(), 201);
            edge.is("\"" + text + "\": count(3)", x.count(3), 3);
            edge.is("\"" + text + "\": back()", x.back(), 2);
            edge.is("\"" + text + "\": map() behind back()", x.map(), 202);
        }
    }

    @Says(promise = 23, words = "each that is not refused (be anything otherwise by it or not)")
    static void aTextThatChangesNothingIsADeed(Edge edge) {
        ForcedRings x = new ForcedRings();
        edge.is("read()", Due.readText(x, "(0)(1)(2)"), 3);
        edge.is("map()", x.map(), 12);
        edge.is("count(3)", x.count(3), 1);
        edge.is("back()", x.back(), 0);
    }

    // ---- 24 why

    private static void why(Edge edge, ForcedRings x, String when, long rings, long points, long fault) {
        edge.is(when + ": why(0)", x.why(0), rings);
        edge.is(when + ": why(1)", x.why(1), points);
        edge.is(when + ": why(2)", x.why(2), fault);
    }

    @Says(promise = 24, words = "WHY tells of the latest read() by a FAULT (none at first)")
    static void noneAtFirst(Edge edge) {
        ForcedRings x = new ForcedRings();
        why(edge, x, "at first", Edge.NO, Edge.NO, Edge.NO);
        Due.readText(x, "(0 1)");
        why(edge, x, "behind a text", Edge.NO, Edge.NO, Edge.NO);
        x.feed('(');
        why(edge, x, "ahead of read()", Edge.NO, Edge.NO, Edge.NO);
        x.read();
        why(edge, x, "behind a fault", 0, 0, 1);
    }

    @Says(promise = 24, words = "`long why(int i)`: WHY: the number of layer i (0 .. 2). NO: i, none.")
    static void noSuchLayer(Edge edge) {
        for (int bad : new int[] {-1, 3, 4, Edge.LEAST, Edge.MOST}) {
            edge.refused("why(" + bad + ")", Edge.NO, x -> x.why(bad));
            edge.is("why(" + bad + ") at first", new ForcedRings().why(bad), Edge.NO);
        }
    }

    @Says(promise = 24, words = "WHY tells of the latest read() by a FAULT")
    static void theLatestOfTwoFaults(Edge edge) {
        ForcedRings x = new ForcedRings();
        Due.readText(x, "(0 1)(2)(");
        why(edge, x, "the first fault", 2, 3, 9);
        x.read();
        why(edge, x, "that of an empty tape", 0, 0, 0);
        Due.readText(x, "(2)(1 ");
        why(edge, x, "the third fault", 1, 2, 6);
    }

    @Says(promise = 24, words = "WHY stays behind a read() without a FAULT")
    static void staysBehindAText(Edge edge) {
        ForcedRings x = new ForcedRings();
        Due.readText(x, "(2)(1 ");
        Due.readText(x, "(0 1 2)");
        why(edge, x, "behind a text", 1, 2, 6);
        x.points(8);
        x.way(1);
        x.back();
        why(edge, x, "behind points and way", 1, 2, 6);
    }

    @Says(promise = 24, words = "of layer 0 how many RINGS stand wholly ahead of the FAULT")
    static void ringsThatAreNotWhole(Edge edge) {
        String[] texts = {"(0 1", "(0 1)", "(0 1)(", "(0 1)(2", "(0 1)(2)"};
        int[] whole = {0, 1, 1, 1, 2};
        for (int i = 0; i < texts.length; i++) {
            ForcedRings x = new ForcedRings();
            Due.readText(x, texts[i] + "x");
            edge.is(texts[i] + "x: why(0)", x.why(0), whole[i]);
        }
        ForcedRings most = new ForcedRings();
        most.points(8);
        Due.readText(most, "(0)(1)(2)(3)(4)(5)(6)(7)(");
        why(edge, most, "of eight rings", 8, 8, 25);
    }

    @Says(promise = 24, words = "layer 1 counts points of the RING that is not whole, too.")
    static void pointsOfTheRingThatIsNotWhole(Edge edge) {
        String[] texts = {"(", "(0", "(0 ", "(0 1", "(0)(", "(0)(1", "(0)(1 2"};
        int[] told = {0, 1, 1, 2, 1, 2, 3};
        for (int i = 0; i < texts.length; i++) {
            ForcedRings x = new ForcedRings();
            Due.readText(x, texts[i]);
            edge.is(texts[i] + ": why(1)", x.why(1), told[i]);
        }
    }

    @Says(promise = 24, words = "of layer 2 the FAULT.")
    static void theFaultItselfFromTheFirstPlaceToTheLast(Edge edge) {
        String[] texts = {"", "x", "(", "(0", "(0 ", "(0 1", "(0 1)x", "(0 1)(", "(0)(1)(2)(3)(4)(5)(6)(7)("};
        int[] places = {0, 0, 1, 2, 3, 4, 5, 6, 25};
        for (int i = 0; i < texts.length; i++) {
            ForcedRings x = new ForcedRings();
            x.points(8);
            edge.is(texts[i] + ": read()", Due.readText(x, texts[i]), -100 - places[i]);
            edge.is(texts[i] + ": why(2)", x.why(2), places[i]);
        }
    }

    @Says(promise = 24, words = "of layer 1 how many points were told by then, of all RINGS")
    static void theFigureOfTheFaultIsNotCounted(Edge edge) {
        ForcedRings x = new ForcedRings();
        Due.readText(x, "(0 1 1)");
        why(edge, x, "told already", 0, 2, 5);
        Due.readText(x, "(0)(1 3)");
        why(edge, x, "no point", 1, 2, 6);
        Due.readText(x, "(3 0 1)");
        why(edge, x, "points behind the fault", 0, 0, 1);
    }
}
