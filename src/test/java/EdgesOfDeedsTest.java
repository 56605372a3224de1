/** Promises 25 to 28, at the boundary cases that the document names. */
public final class EdgesOfDeedsTest {
    public static void main(String[] args) {
        Edges.run(EdgesOfDeedsTest.class, 25, 28);
    }

    // ---- 25 back

    /** Eight points, and so many deeds: by each but the first, point 0 is led one further on. */
    private static ForcedRings withDeeds(int deeds) {
        ForcedRings x = new ForcedRings();
        x.points(8);
        for (int i = 0; i < deeds; i++) {
            x.lead(0, i % 8);
        }
        return x;
    }

    @Says(promise = 25, words = "`int back()`: The latest DEED is taken back: how many still may be. STATE: none.")
    static void noDeedAtAll(Edge edge) {
        ForcedRings x = new ForcedRings();
        edge.is("back() at first", x.back(), Edge.STATE);
        edge.is("count(3)", x.count(3), 0);
        x.lead(0, 1);
        edge.is("back(), the only one", x.back(), 0);
        edge.is("back(), none is left", x.back(), Edge.STATE);
        edge.is("map()", x.map(), 12);
    }

    @Says(promise = 25, words = "they change nothing (but THE TAPE, where told)")
    static void backIsRefused(Edge edge) {
        edge.refusedBehind(x -> x.points(5) + x.turn(1, 4, 2) + x.way(0), "back()", Edge.STATE, ForcedRings::back);
        edge.refusedBehind(ForcedRings::undo, "back() behind undo()", Edge.STATE, ForcedRings::back);
    }

    @Says(promise = 25, words = "10 at most (older ones no more)")
    static void nineTenAndMoreDeeds(Edge edge) {
        for (int deeds : new int[] {9, 10, 11, 12, 25, 400}) {
            edge.is("count(3) behind " + deeds, withDeeds(deeds).count(3), Math.min(deeds, 10));
        }
    }

    @Says(promise = 25, words = "Behind eleven DEEDS ten can be taken back.")
    static void tenOfEleven(Edge edge) {
        ForcedRings x = withDeeds(11);
        for (int left = 9; left >= 0; left--) {
            int led = left % 8;
            edge.is("back()", x.back(), left);
            edge.is("of(0, 0), as it was ahead of that deed", x.of(0, 0), led);
        }
        edge.is("back(), an eleventh time", x.back(), Edge.STATE);
        edge.is("of(0, 0)", x.of(0, 0), 0);
    }

    @Says(promise = 25, words = "where points are LED is as it was ahead of it, if it is taken back the latest first, 10 at most (older ones no more)")
    static void theOldestOfElevenStays(Edge edge) {
        ForcedRings x = new ForcedRings();
        x.points(8);
        x.lead(7, 0);
        for (int i = 0; i < 10; i++) {
            x.lead(0, i % 8);
        }
        for (int i = 0; i < 12; i++) {
            x.back();
        }
        edge.is("map(), by the oldest alone", x.map(), 1234560);
    }

    @Says(promise = 25, words = "where points are LED is as it was ahead of it, if it is taken back")
    static void eachOfTheMostPointsIsLedAsItWas(Edge edge) {
        ForcedRings x = Due.led("77777777");
        x.turn(1, 4, 1);
        edge.is("map()", x.map(), 0);
        x.turn(1, 4, 7);
        x.lead(7, 1);
        edge.is("back()", x.back(), 9);
        edge.is("map()", x.map(), 77777777);
        edge.is("back()", x.back(), 8);
        edge.is("map()", x.map(), 0);
        edge.is("back()", x.back(), 7);
        edge.is("map()", x.map(), 77777777);
        edge.is("back()", x.back(), 6);
        edge.is("map()", x.map(), 77777777);
        edge.is("back()", x.back(), 5);
        edge.is("map(), point 7 was led to itself already", x.map(), 77777767);
    }

    @Says(promise = 25, words = "if it is taken back the latest first")
    static void theLatestFirst(Edge edge) {
        ForcedRings x = new ForcedRings();
        x.lead(0, 1);
        x.turn(1, 4, 1);
        Due.readText(x, "(2 1)");
        edge.is("back() of read()", x.back(), 2);
        edge.is("map()", x.map(), 220);
        edge.is("back() of turn()", x.back(), 1);
        edge.is("map()", x.map(), 112);
        x.lead(2, 0);
        edge.is("count(3) behind another", x.count(3), 2);
        edge.is("back() of that", x.back(), 1);
        edge.is("back() of the first", x.back(), 0);
        edge.is("map()", x.map(), 12);
    }

    @Says(promise = 25, words = "each that is not refused (be anything otherwise by it or not)")
    static void refusedCallsLeaveNone(Edge edge) {
        ForcedRings x = new ForcedRings();
        x.lead(0, 1);
        x.lead(0, 3);
        x.lead(3, 0);
        x.turn(0, 0, 0);
        x.turn(1, 5, 0);
        x.turn(1, 0, 8);
        x.points(1);
        x.way(2);
        Due.readText(x, "(0");
        edge.is("count(3)", x.count(3), 1);
        edge.is("back()", x.back(), 0);
        edge.is("map()", x.map(), 12);
    }

    // ---- 26 image

    @Says(promise = 26, words = "`int image()`: AN IMAGE is kept: n.")
    static void imagesOfTheFewestAndOfTheMost(Edge edge) {
        ForcedRings x = new ForcedRings();
        edge.is("image() of a new object", x.image(), 3);
        x.points(8);
        edge.is("image()", x.image(), 8);
        x.points(2);
        edge.is("image()", x.image(), 2);
        x.points(8);
        edge.is("undo(), the latest is kept", x.undo(), 2);
    }

    @Says(promise = 26, words = "AN IMAGE keeps POINTS, WAY, where they are LED")
    static void whatComesBehindTheImageIsNotInIt(Edge edge) {
        ForcedRings x = Due.led("1200");
        x.way(1);
        x.lead(3, 1);
        x.image();
        edge.is("count(3), deeds stay", x.count(3), 1);
        x.lead(0, 3);
        x.way(0);
        x.turn(1, 0, 0);
        x.undo();
        edge.is("map()", x.map(), 1201);
        edge.is("count(1)", x.count(1), 1);
        edge.is("count(0)", x.count(0), 4);
    }

    // ---- 27 undo

    @Says(promise = 27, words = "`int undo()`: All that it keeps is as in THE IMAGE: n. STATE: there is none.")
    static void noImageAtAll(Edge edge) {
        ForcedRings x = new ForcedRings();
        x.points(5);
        x.lead(0, 4);
        x.feed('(');
        edge.is("undo()", x.undo(), Edge.STATE);
        edge.is("count(0)", x.count(0), 5);
        edge.is("map()", x.map(), 41234);
        edge.is("count(3), deeds stay", x.count(3), 1);
        edge.is("count(4)", x.count(4), 1);
        edge.is("back()", x.back(), 0);
    }

    @Says(promise = 27, words = "as it is laid back, there are no DEEDS.")
    static void noDeedsBehindUndo(Edge edge) {
        ForcedRings x = new ForcedRings();
        x.lead(0, 1);
        x.image();
        for (int i = 0; i < 10; i++) {
            x.lead(1, i % 3);
        }
        edge.is("undo()", x.undo(), 3);
        edge.is("count(3)", x.count(3), 0);
        edge.is("back()", x.back(), Edge.STATE);
        edge.is("map()", x.map(), 112);
        x.lead(2, 0);
        edge.is("undo() once more", x.undo(), 3);
        edge.is("map()", x.map(), 112);
        edge.is("back()", x.back(), Edge.STATE);
    }

    @Says(promise = 27, words = "THE TAPE and WHY stay as they are by undo().")
    static void theTapeAndWhyStay(Edge edge) {
        ForcedRings x = new ForcedRings();
        x.image();
        Due.readText(x, "(0)(1 ");
        Due.feedAll(x, "(2 1");
        x.undo();
        edge.is("count(4)", x.count(4), 4);
        edge.is("why(0)", x.why(0), 1);
        edge.is("why(1)", x.why(1), 2);
        edge.is("why(2)", x.why(2), 6);
        edge.is("feed(41)", x.feed(')'), 5);
        edge.is("read()", x.read(), 1);
        edge.is("map()", x.map(), 21);
    }

    @Says(promise = 27, words = "THE TAPE and WHY stay as they are by undo().")
    static void anEmptyTapeAndNoWhyStay(Edge edge) {
        ForcedRings x = new ForcedRings();
        x.feed('(');
        x.read();
        x.feed('(');
        x.image();
        x.read();
        x.undo();
        edge.is("count(4), not as at the image", x.count(4), 0);
        ForcedRings y = new ForcedRings();
        y.image();
        y.undo();
        edge.is("why(2)", y.why(2), Edge.NO);
    }

    @Says(promise = 27, words = "All that it keeps is as in THE IMAGE: n.")
    static void fromTheMostPointsToTheFewestAndBack(Edge edge) {
        ForcedRings x = Due.led("76543210");
        x.way(1);
        x.image();
        x.points(2);
        x.way(0);
        edge.is("undo()", x.undo(), 8);
        edge.is("map()", x.map(), 76543210);
        edge.is("count(2), eight on a circle", x.count(2), 8);
        x.points(2);
        x.way(0);
        x.lead(0, 1);
        x.image();
        x.points(8);
        x.turn(1, 4, 3);
        edge.is("undo()", x.undo(), 2);
        edge.is("map()", x.map(), 11);
        edge.is("count(2)", x.count(2), 1);
        edge.is("lead(2, 0), no such point", x.lead(2, 0), Edge.BAD);
    }

    // ---- 28 count

    @Says(promise = 28, words = "0 n, 1 WAY, 2 PIECES, 3 DEEDS that may be taken back, 4 bytes of THE TAPE, 5 BORN. BAD.")
    static void theLeastOfEachAndTheMost(Edge edge) {
        ForcedRings x = new ForcedRings();
        x.points(2);
        int[] least = {2, 0, 1, 0, 0};
        for (int what = 0; what < least.length; what++) {
            edge.is("count(" + what + "), the least", x.count(what), least[what]);
        }
        x.points(8);
        x.way(1);
        for (int i = 0; i < 60; i++) {
            x.feed(0);
            x.lead(i % 8, i % 7);
        }
        int[] most = {8, 1, 8, 10, 60};
        for (int what = 0; what < most.length; what++) {
            edge.is("count(" + what + "), the most", x.count(what), most[what]);
        }
    }

    @Says(promise = 28, words = "5 BORN. BAD.")
    static void noSuchWhat(Edge edge) {
        for (int bad : new int[] {-1, 6, 7, Edge.LEAST, Edge.MOST}) {
            edge.refused("count(" + bad + ")", Edge.BAD, x -> x.count(bad));
        }
    }

    @Says(promise = 28, words = "PIECES: on a line i, between points i and i + 1 (n less 1 of them); on a circle n")
    static void piecesOfEachNumberOfPoints(Edge edge) {
        ForcedRings x = new ForcedRings();
        for (int n = 2; n <= 8; n++) {
            x.points(n);
            x.way(0);
            edge.is("n " + n + " on a line: count(2)", x.count(2), n - 1);
            x.way(1);
            edge.is("n " + n + " on a circle: count(2)", x.count(2), n);
        }
    }

    @Says(promise = 28, words = "BORN: 1 at first; three times it is multiplied by 10, and 1, then 2, then 3 comes to it (by two initialisers, as they stand, and by what makes the object): 1123.")
    static void bornOfEachObject(Edge edge) {
        ForcedRings first = new ForcedRings();
        ForcedRings second = new ForcedRings();
        edge.is("count(5)", first.count(5), 1123);
        edge.is("count(5) of a second object", second.count(5), 1123);
        first.points(8);
        first.image();
        first.undo();
        edge.is("count(5) in use", first.count(5), 1123);
    }

    @Says(promise = 28, words = "NONE is -1; NO, where a long is answered, the least long.")
    static void theConstants(Edge edge) {
        edge.is("NONE", ForcedRings.NONE, -1);
        edge.is("BAD", ForcedRings.BAD, -2);
        edge.is("STATE", ForcedRings.STATE, -3);
        edge.is("FULL", ForcedRings.FULL, -4);
        edge.is("NO", ForcedRings.NO, Long.MIN_VALUE);
    }
}
