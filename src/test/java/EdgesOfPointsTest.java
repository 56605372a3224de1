/** Promises 1 to 9, at the boundary cases that the document names. */
public final class EdgesOfPointsTest {
    private static final String[] ROUNDS = {
        "00", "10", "120", "1230", "12340", "123450", "1234560", "12345670"};
    private static final String[] SELVES = {"01", "012", "0123", "01234", "012345", "0123456", "01234567"};

    public static void main(String[] args) {
        Edges.run(EdgesOfPointsTest.class, 1, 9);
    }

    // ---- 1 a new object

    @Says(promise = 1, words = "`ForcedRings()`: 3 POINTS on a line, each LED to itself.")
    static void newObject(Edge edge) {
        ForcedRings x = new ForcedRings();
        edge.is("count(0)", x.count(0), 3);
        edge.is("count(1)", x.count(1), 0);
        edge.is("count(2)", x.count(2), 2);
        edge.is("map()", x.map(), 12);
        edge.is("of(2, 0)", x.of(2, 0), 2);
        edge.is("of(3, 0)", x.of(3, 0), Edge.BAD);
    }

    @Says(promise = 1, words = "`ForcedRings()`: 3 POINTS on a line, each LED to itself.")
    static void newObjectBesideOneInUse(Edge edge) {
        ForcedRings used = new ForcedRings();
        used.points(8);
        used.way(1);
        used.lead(0, 7);
        used.image();
        Due.readText(used, "(");
        used.feed('(');
        used.pattern(6, -1);
        ForcedRings x = new ForcedRings();
        edge.is("map()", x.map(), 12);
        edge.is("count(1)", x.count(1), 0);
        edge.is("count(3)", x.count(3), 0);
        edge.is("count(4)", x.count(4), 0);
        edge.is("undo()", x.undo(), Edge.STATE);
        edge.is("why(2)", x.why(2), Edge.NO);
        edge.is("count(0) of the one in use", used.count(0), 8);
    }

    @Says(promise = 1, words = "An object is used for at most 512 calls after it has been made")
    static void theLastOf512Calls(Edge edge) {
        ForcedRings x = new ForcedRings();
        int[] led = {0, 1, 2};
        for (int call = 1; call <= 511; call++) {
            int i = call % 3;
            int j = call / 3 % 3;
            edge.is("call " + call, x.lead(i, j), led[i]);
            led[i] = j;
        }
        edge.is("the 512th call, map()", x.map(), led[0] * 100 + led[1] * 10 + led[2]);
    }

    @Says(promise = 1, words = "An object is used for at most 512 calls after it has been made")
    static void deedsAndTapeAtTheEndOf512Calls(Edge edge) {
        ForcedRings deeds = new ForcedRings();
        ForcedRings tape = new ForcedRings();
        for (int call = 1; call <= 511; call++) {
            deeds.lead(0, call % 3);
            edge.is("call " + call + ", feed(40)", tape.feed('('), call <= 60 ? call : Edge.FULL);
        }
        edge.is("the 512th call, back()", deeds.back(), 9);
        edge.is("the 512th call, read()", tape.read(), -101);
    }

    @Says(promise = 1, words = "An object is used for at most 512 calls after it has been made")
    static void theDearestCallAsTheLastOf512(Edge edge) {
        ForcedRings x = new ForcedRings();
        x.points(8);
        for (int call = 2; call <= 511; call++) {
            x.lead(call % 8, call % 2 == 0 ? 0 : 7);
        }
        edge.is("the 512th call, pattern(6, 119)", x.pattern(6, 119), 543102);
    }

    // ---- 2 points

    @Says(promise = 2, words = "1 POINTS 0 .. n less 1 (n 2 .. 8; 3 at first)")
    static void fewestAndMostPoints(Edge edge) {
        ForcedRings x = new ForcedRings();
        edge.is("points(2), 3 at first", x.points(2), 3);
        edge.is("count(0)", x.count(0), 2);
        edge.is("points(8)", x.points(8), 2);
        edge.is("count(0)", x.count(0), 8);
        edge.is("points(2)", x.points(2), 8);
    }

    @Says(promise = 2, words = "`int points(int n)`: There are n POINTS, each LED to itself: how many there were. BAD.")
    static void tooFewAndTooManyPoints(Edge edge) {
        for (int n : new int[] {1, 9, 0, -1, -2, 10, Edge.LEAST, Edge.MOST}) {
            edge.refused("points(" + n + ")", Edge.BAD, x -> x.points(n));
        }
    }

    @Says(promise = 2, words = "There are n POINTS, each LED to itself")
    static void eachLedToItself(Edge edge) {
        ForcedRings x = new ForcedRings();
        for (String self : SELVES) {
            x.points(8);
            x.turn(1, 4, 7);
            x.points(self.length());
            edge.is("map() of " + self.length(), x.map(), Integer.parseInt(self));
        }
    }

    @Says(promise = 2, words = "There are n POINTS, each LED to itself")
    static void morePointsThanThereWere(Edge edge) {
        ForcedRings x = Due.led("10");
        edge.is("points(8)", x.points(8), 2);
        edge.is("map()", x.map(), 1234567);
        edge.is("rings(0)", x.rings(0), 8);
    }

    @Says(promise = 2, words = "points() and way() leave none, also with the same number, and each point is LED to itself then")
    static void theSameNumberOfPoints(Edge edge) {
        ForcedRings x = Due.led("120");
        edge.is("points(3)", x.points(3), 3);
        edge.is("map()", x.map(), 12);
        edge.is("count(3)", x.count(3), 0);
        edge.is("back()", x.back(), Edge.STATE);
    }

    @Says(promise = 2, words = "points(), way() leave none")
    static void noDeedsBehindPoints(Edge edge) {
        ForcedRings x = new ForcedRings();
        for (int i = 0; i < 10; i++) {
            x.lead(0, i % 3);
        }
        x.points(4);
        edge.is("count(3)", x.count(3), 0);
        edge.is("back()", x.back(), Edge.STATE);
        edge.is("map()", x.map(), 123);
    }

    // ---- 3 way

    @Says(promise = 3, words = "WAY 0: they are on a line in this order (at first); WAY 1: on a circle, 0 behind the last one.")
    static void theTwoWays(Edge edge) {
        ForcedRings x = Due.led("201");
        edge.is("way(1), a line at first", x.way(1), 0);
        edge.is("0 is behind the last one: covers(2, 0)", x.covers(2, 0), 2);
        edge.is("way(0)", x.way(0), 1);
        edge.is("no piece behind the last one: covers(2, 0)", x.covers(2, 0), Edge.BAD);
    }

    @Says(promise = 3, words = "`int way(int w)`: WAY becomes w: what it was. BAD.")
    static void noSuchWay(Edge edge) {
        for (int w : new int[] {-1, 2, 3, -2, Edge.LEAST, Edge.MOST}) {
            edge.refused("way(" + w + ")", Edge.BAD, x -> x.way(w));
            edge.refusedBehind(x -> x.way(1), "way(" + w + ") on a circle", Edge.BAD, x -> x.way(w));
        }
    }

    @Says(promise = 3, words = "WAY becomes w: what it was.")
    static void theSameWay(Edge edge) {
        ForcedRings x = Due.led("120");
        edge.is("way(0)", x.way(0), 0);
        edge.is("map()", x.map(), 120);
        x.way(1);
        edge.is("way(1)", x.way(1), 1);
        edge.is("count(1)", x.count(1), 1);
        edge.is("map() on a circle", x.map(), 120);
    }

    @Says(promise = 3, words = "points() and way() leave none, also with the same number")
    static void noDeedsBehindWay(Edge edge) {
        for (int w = 0; w <= 1; w++) {
            ForcedRings x = Due.led("120");
            x.way(w);
            edge.is("count(3) behind way(" + w + ")", x.count(3), 0);
            edge.is("back() behind way(" + w + ")", x.back(), Edge.STATE);
            edge.is("map() behind way(" + w + ")", x.map(), 120);
        }
    }

    // ---- 4 lead

    @Says(promise = 4, words = "each LED to one of them (itself, at first)")
    static void theLastPoint(Edge edge) {
        for (int n = 2; n <= 8; n++) {
            ForcedRings x = new ForcedRings();
            x.points(n);
            int last = n - 1;
            edge.is("n " + n + ": lead(0, last)", x.lead(0, last), 0);
            edge.is("n " + n + ": lead(last, 0)", x.lead(last, 0), last);
            edge.is("n " + n + ": of(0, 0)", x.of(0, 0), last);
            edge.is("n " + n + ": of(last, 0)", x.of(last, 0), 0);
        }
    }

    @Says(promise = 4, words = "`int lead(int i, int j)`: Point i is LED to j: where it was. BAD.")
    static void noSuchPointToLead(Edge edge) {
        for (int bad : new int[] {-1, 5, 8, 9, Edge.LEAST, Edge.MOST}) {
            edge.refused("lead(" + bad + ", 0)", Edge.BAD, x -> x.lead(bad, 0));
            edge.refused("lead(0, " + bad + ")", Edge.BAD, x -> x.lead(0, bad));
            edge.refused("lead(" + bad + ", " + bad + ")", Edge.BAD, x -> x.lead(bad, bad));
        }
    }

    @Says(promise = 4, words = "1 POINTS 0 .. n less 1 (n 2 .. 8; 3 at first), each LED to one of them")
    static void thePointBehindTheLast(Edge edge) {
        ForcedRings x = new ForcedRings();
        for (int n = 8; n >= 2; n--) {
            x.points(n);
            edge.is("n " + n + ": lead(n, 0)", x.lead(n, 0), Edge.BAD);
            edge.is("n " + n + ": lead(0, n)", x.lead(0, n), Edge.BAD);
            edge.is("n " + n + ": count(3)", x.count(3), 0);
        }
    }

    @Says(promise = 4, words = "each that is not refused (be anything otherwise by it or not)")
    static void ledWhereItWas(Edge edge) {
        ForcedRings x = new ForcedRings();
        edge.is("lead(1, 1)", x.lead(1, 1), 1);
        edge.is("count(3)", x.count(3), 1);
        edge.is("back()", x.back(), 0);
        edge.is("map()", x.map(), 12);
    }

    // ---- 5 of

    @Says(promise = 5, words = "how many times it is led on till it is on a RING (0: it is on one)")
    static void noTailAndTheLongest(Edge edge) {
        ForcedRings x = Due.led("12345677");
        edge.is("of(7, 1), on a ring", x.of(7, 1), 0);
        edge.is("of(6, 1)", x.of(6, 1), 1);
        edge.is("of(0, 1), the longest", x.of(0, 1), 7);
        edge.is("of(3, 1) where all are on one ring", Due.led("12345670").of(3, 1), 0);
        edge.is("of(0, 1) of two points", Due.led("11").of(0, 1), 1);
    }

    @Says(promise = 5, words = "its RING: the points that are led round (bits), how many it has.")
    static void theSmallestRingAndTheWidest(Edge edge) {
        ForcedRings still = Due.led("77777777");
        edge.is("of(7, 2), of itself alone", still.of(7, 2), 128);
        edge.is("of(0, 2), behind a tail: not itself", still.of(0, 2), 128);
        edge.is("of(0, 3)", still.of(0, 3), 1);
        ForcedRings wide = Due.led("12345670");
        edge.is("of(7, 2), of all eight", wide.of(7, 2), 255);
        edge.is("of(7, 3)", wide.of(7, 3), 8);
    }

    @Says(promise = 5, words = "Of a point: where it is LED (what 0), TAIL (1), the RING it comes to (2; bits), how many that has (3). BAD.")
    static void noSuchPointAndNoSuchWhat(Edge edge) {
        for (int bad : new int[] {-1, 5, 8, Edge.LEAST, Edge.MOST}) {
            for (int what = 0; what <= 3; what++) {
                int asked = what;
                edge.refused("of(" + bad + ", " + what + ")", Edge.BAD, x -> x.of(bad, asked));
            }
        }
        for (int bad : new int[] {-1, 4, Edge.LEAST, Edge.MOST}) {
            edge.refused("of(0, " + bad + ")", Edge.BAD, x -> x.of(0, bad));
        }
    }

    // ---- 6 map

    @Says(promise = 6, words = "the figures of where points are LED, that of point 0 the highest (012: 12)")
    static void zerosAheadAndTheGreatest(Edge edge) {
        edge.is("map() of 012", new ForcedRings().map(), 12);
        edge.is("map() of 00", Due.led("00").map(), 0);
        edge.is("map() of 10", Due.led("10").map(), 10);
        edge.is("map() of 00000000", Due.led("00000000").map(), 0);
        edge.is("map() of 00000001", Due.led("00000001").map(), 1);
        edge.is("map() of 77777777", Due.led("77777777").map(), 77777777);
    }

    // ---- 7 rings

    @Says(promise = 7, words = "Of RINGS how many (what 0), how many points are on any (1), the greatest number of points (2), whether all points are on RINGS (3; 1, 0).")
    static void fewestRingsAndMost(Edge edge) {
        rings(edge, "01234567", 8, 8, 1, 1);
        rings(edge, "12345670", 1, 8, 8, 1);
        rings(edge, "12345677", 1, 1, 1, 0);
        rings(edge, "00", 1, 1, 1, 0);
        rings(edge, "10", 1, 2, 2, 1);
        rings(edge, "12345611", 1, 6, 6, 0);
    }

    private static void rings(Edge edge, String figures, int many, int on, int greatest, int all) {
        ForcedRings x = Due.led(figures);
        edge.is(figures + ": rings(0)", x.rings(0), many);
        edge.is(figures + ": rings(1)", x.rings(1), on);
        edge.is(figures + ": rings(2)", x.rings(2), greatest);
        edge.is(figures + ": rings(3)", x.rings(3), all);
    }

    @Says(promise = 7, words = "whether all points are on RINGS (3; 1, 0). BAD.")
    static void noSuchWhatOfRings(Edge edge) {
        for (int bad : new int[] {-1, 4, 5, Edge.LEAST, Edge.MOST}) {
            edge.refused("rings(" + bad + ")", Edge.BAD, x -> x.rings(bad));
        }
    }

    // ---- 8 ring

    @Says(promise = 8, words = "RINGS are numbered by their least points, from 0.")
    static void theFirstRingAndTheLast(Edge edge) {
        // Point 0 comes to the ring of 5 and 7, but that of 1 has the lesser point.
        ForcedRings x = Due.led("51125755");
        edge.is("ring(0, 2)", x.ring(0, 2), 1);
        edge.is("ring(1, 2)", x.ring(1, 2), 5);
        edge.is("ring(2, 2), one more than there are", x.ring(2, 2), Edge.BAD);
        ForcedRings most = Due.led("01234567");
        edge.is("ring(7, 2) of eight", most.ring(7, 2), 7);
        edge.is("ring(8, 2) of eight", most.ring(8, 2), Edge.BAD);
    }

    @Says(promise = 8, words = "KINDS: 0 RING (none is just that); 1 EVEN under RING: of 4, 6, 8 points; 2 ODD under RING: of 3, 5, 7; 3 STILL under ODD: of 1; 4 PAIR under EVEN: of 2.")
    static void theKindOfEachNumberOfPoints(Edge edge) {
        int[] kinds = {3, 4, 2, 1, 2, 1, 2, 1};
        for (int i = 0; i < ROUNDS.length; i++) {
            ForcedRings x = Due.led(ROUNDS[i]);
            edge.is("ring(0, 0) of " + (i + 1), x.ring(0, 0), kinds[i]);
            edge.is("ring(0, 1) of " + (i + 1), x.ring(0, 1), i + 1);
        }
    }

    @Says(promise = 8, words = "Of a RING: KIND (what 0), how many points (1), the least point (2). BAD.")
    static void noSuchRingAndNoSuchWhat(Edge edge) {
        for (int bad : new int[] {-1, 1, 2, Edge.LEAST, Edge.MOST}) {
            for (int what = 0; what <= 2; what++) {
                int asked = what;
                edge.refused("ring(" + bad + ", " + what + ")", Edge.BAD, x -> x.ring(bad, asked));
            }
        }
        for (int bad : new int[] {-1, 3, Edge.LEAST, Edge.MOST}) {
            edge.refused("ring(0, " + bad + ")", Edge.BAD, x -> x.ring(0, bad));
        }
    }

    // ---- 9 taken

    @Says(promise = 9, words = "A RING taken for one of KIND k (0 .. 4), or one under that: how many points. BAD; -13.")
    static void theKindsThatEachIsUnder(Edge edge) {
        String[] fits = {"0 2 3", "0 1 4", "0 2", "0 1", "0 2", "0 1", "0 2", "0 1"};
        for (int i = 0; i < ROUNDS.length; i++) {
            ForcedRings x = Due.led(ROUNDS[i]);
            for (int k = 0; k <= 4; k++) {
                int due = fits[i].indexOf('0' + k) >= 0 ? i + 1 : Edge.OTHER_KIND;
                edge.is("taken(0, " + k + ") of " + (i + 1), x.taken(0, k), due);
            }
        }
    }

    @Says(promise = 9, words = "-13 a thing of another KIND")
    static void anotherKindChangesNothing(Edge edge) {
        edge.refused("taken(0, 1) of five", Edge.OTHER_KIND, x -> x.taken(0, 1));
        edge.refused("taken(0, 3) of five", Edge.OTHER_KIND, x -> x.taken(0, 3));
        edge.refused("taken(0, 4) of five", Edge.OTHER_KIND, x -> x.taken(0, 4));
    }

    @Says(promise = 9, words = "A RING taken for one of KIND k (0 .. 4), or one under that: how many points. BAD; -13.")
    static void noSuchRingAndNoSuchKind(Edge edge) {
        for (int bad : new int[] {-1, 5, Edge.LEAST, Edge.MOST}) {
            edge.refused("taken(0, " + bad + ")", Edge.BAD, x -> x.taken(0, bad));
        }
        for (int bad : new int[] {-1, 1, 2, Edge.LEAST, Edge.MOST}) {
            edge.refused("taken(" + bad + ", 0)", Edge.BAD, x -> x.taken(bad, 0));
            edge.refused("BAD is ahead of -13: taken(" + bad + ", 4)", Edge.BAD, x -> x.taken(bad, 4));
        }
    }
}
