/** Promises 22 to 24: feed, read, why. */
public final class TextsTest {
    private static final int BAD = -2;
    private static final int FULL = -4;
    private static final long NO = Long.MIN_VALUE;
    private static final int LEAST = Integer.MIN_VALUE;
    private static final int MOST = Integer.MAX_VALUE;
    private static final Due due = new Due("TextsTest");

    public static void main(String[] args) {
        feed();
        read();
        faults();
        why();
        due.end();
    }

    private static void feed() {
        ForcedRings x = new ForcedRings();
        for (int i = 1; i <= 60; i++) {
            due.is("22 byte " + i, x.feed(i == 1 ? 0 : 127), i);
        }
        due.is("22 full", x.feed(40), FULL);
        due.is("22 BAD ahead of FULL", x.feed(128), BAD);
        due.is("22 bytes", x.count(4), 60);
        due.is("22 read empties it", x.read(), -100);
        due.is("22 empty", x.count(4), 0);
        for (int bad : new int[] {LEAST, -1, 128, 296, MOST}) {
            due.is("22 letter " + bad, x.feed(bad), BAD);
        }
        due.is("22 BAD leaves it", x.count(4), 0);
        x.feed('(');
        x.points(8);
        x.way(1);
        x.image();
        x.undo();
        x.back();
        due.is("22 THE TAPE stays", x.count(4), 1);
    }

    private static void text(int n, String text, int rings, int map) {
        ForcedRings x = new ForcedRings();
        x.points(n);
        x.turn(1, 4, 1);
        due.is("23 " + text, Due.readText(x, text), rings);
        due.is("23 map by " + text, x.map(), map);
        due.is("23 deed by " + text, x.count(3), rings > 0 ? 2 : 1);
        due.is("23 tape by " + text, x.count(4), 0);
    }

    private static void read() {
        text(4, "(0 2)(1 3)", 2, 2301);
        text(4, "(0 3 1)", 1, 3021);
        // RINGS of the TEXT: points that none of these has are not told.
        text(4, "(2)", 1, 123);
        text(4, "(3)(1 0)", 2, 1023);
        text(8, "(7 6 5 4 3 2 1 0)", 1, 70123456);
        text(8, "(0)(1)(2)(3)(4)(5)(6)(7)", 8, 1234567);
        text(8, "(0 7)(1 6)(2 5)(3 4)", 4, 76543210);
        ForcedRings x = new ForcedRings();
        Due.readText(x, "(0 1 2)");
        due.is("23 another text", Due.readText(x, "(1 2)"), 1);
        due.is("23 nothing of the text before", x.map(), 21);
        due.is("23 a text behind a fault", Due.readText(x, "(2 0)(1 "), -108);
        due.is("23 nothing of the fault", Due.readText(x, "(1)"), 1);
        due.is("23 map behind a fault", x.map(), 12);
        Due.feedAll(x, "(5)(2)");
        x.points(8);
        due.is("23 points as they are by then", x.read(), 2);
    }

    private static void fault(int n, String text, int place, int rings, int points) {
        ForcedRings x = new ForcedRings();
        x.points(n);
        x.turn(1, 4, 1);
        int map = x.map();
        String name = "23 n " + n + ", fault in " + text;
        due.is(name, Due.readText(x, text), -100 - place);
        due.is(name + ": map", x.map(), map);
        due.is(name + ": deeds", x.count(3), 1);
        due.is(name + ": tape", x.count(4), 0);
        due.is("24 rings: " + text, x.why(0), rings);
        due.is("24 points: " + text, x.why(1), points);
        due.is("24 fault: " + text, x.why(2), place);
    }

    private static void faults() {
        fault(3, "", 0, 0, 0);
        fault(3, "0", 0, 0, 0);
        fault(3, " (0)", 0, 0, 0);
        fault(3, ")", 0, 0, 0);
        fault(3, "(", 1, 0, 0);
        fault(3, "()", 1, 0, 0);
        fault(3, "( 0)", 1, 0, 0);
        fault(3, "((", 1, 0, 0);
        fault(3, "(3)", 1, 0, 0);
        fault(8, "(8)", 1, 0, 0);
        fault(8, "(/)", 1, 0, 0);
        fault(8, "(:)", 1, 0, 0);
        fault(3, "(0", 2, 0, 1);
        fault(3, "(0 )", 3, 0, 1);
        fault(3, "(0 ", 3, 0, 1);
        fault(3, "(01)", 2, 0, 1);
        fault(3, "(0(", 2, 0, 1);
        fault(3, "(0  1)", 3, 0, 1);
        fault(3, "(0 0)", 3, 0, 1);
        fault(3, "(0 1 0)", 5, 0, 2);
        fault(3, "(0 1 1)", 5, 0, 2);
        fault(8, "(7 7)", 3, 0, 1);
        fault(8, "(5 2)(6 2)", 8, 1, 3);
        fault(3, "(0) ", 3, 1, 1);
        fault(3, "(0))", 3, 1, 1);
        fault(3, "(0) (1)", 3, 1, 1);
        fault(3, "(0)(0)", 4, 1, 1);
        fault(3, "(0)(1", 5, 1, 2);
        fault(3, "(0)(1)(2)(", 10, 3, 3);
        fault(3, "(0 1 2)(0)", 8, 1, 3);
        fault(2, "(0 1 0)", 5, 0, 2);
        fault(2, "(0 1 2)", 5, 0, 2);
        fault(8, "(0 1 2 3)(4 5 6 7)(", 19, 2, 8);
        StringBuilder full = new StringBuilder("(0");
        for (int i = 2; i < 60; i++) {
            full.append('(');
        }
        fault(3, full.toString(), 2, 0, 1);
    }

    private static void why() {
        ForcedRings x = new ForcedRings();
        due.is("24 none at first", x.why(2), NO);
        Due.readText(x, "(0 1)");
        due.is("24 none by a text", x.why(2), NO);
        Due.readText(x, "(0)(1 x");
        Due.readText(x, "(0 1 2)");
        due.is("24 stays behind a text: rings", x.why(0), 1);
        due.is("24 stays behind a text: points", x.why(1), 2);
        due.is("24 stays behind a text: fault", x.why(2), 6);
        x.image();
        Due.readText(x, "(");
        x.undo();
        x.back();
        x.points(4);
        due.is("24 stays by undo: rings", x.why(0), 0);
        due.is("24 stays by undo: fault", x.why(2), 1);
        for (int bad : new int[] {LEAST, -1, 3, MOST}) {
            due.is("24 layer " + bad, x.why(bad), NO);
        }
    }
}
