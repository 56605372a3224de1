/** Promises 17 and 18: pattern, has. */
public final class PatternsTest {
    private static final int NONE = -1;
    private static final int BAD = -2;
    private static final int STATE = -3;
    private static final int LEAST = Integer.MIN_VALUE;
    private static final int MOST = Integer.MAX_VALUE;
    private static final Due due = new Due("PatternsTest");

    public static void main(String[] args) {
        ofRings();
        ofLoops();
        all();
        afterChanges();
        refusals();
        due.end();
    }

    private static void list(String figures, int m, int... wanted) {
        ForcedRings x = Due.led(figures);
        String name = "17 of " + figures + ", " + m;
        due.is(name + ": how many", x.pattern(m, -1), wanted.length);
        for (int k = 0; k < wanted.length; k++) {
            due.is(name + ": " + k, x.pattern(m, k), wanted[k]);
            due.is("18 of " + figures + ": " + wanted[k], x.has(m, wanted[k]), 1);
        }
        due.is(name + ": one more", x.pattern(m, wanted.length), NONE);
    }

    private static void ofRings() {
        // Two rings of 2, one pattern; no loop of 4 is simple.
        list("2301", 2, 10);
        list("2301", 4);
        // A piece that falls onto itself has no simple loop of 2: the ring alone has the pattern.
        list("10", 2, 10);
        // The ring 0 2 4 has points between: numbered by how many of its own are less.
        list("21430567", 3, 120);
        list("3120", 2, 10);
    }

    private static void ofLoops() {
        list("120", 2, 10);
        list("120", 3, 120);
        list("120", 4, 2310);
        list("201", 3, 201);
        // No ring of 2 or 3, but simple loops of these.
        list("020", 2, 10);
        list("020", 3, 120);
        list("2310", 4, 2310);
        list("2310", 3);
        list("24310", 5, 24310);
        list("24310", 3);
        list("012", 2);
        list("00", 6);
    }

    /** All pieces cover all others: each pattern is there, once, rising. */
    private static void all() {
        int[] amounts = {0, 0, 1, 2, 6, 24, 120};
        ForcedRings x = Due.led("07070707");
        for (int m = 2; m <= 6; m++) {
            due.is("17 all of " + m, x.pattern(m, -1), amounts[m]);
            for (int k = 1; k < amounts[m]; k++) {
                int rises = x.pattern(m, k - 1) < x.pattern(m, k) ? 1 : 0;
                due.is("17 rises of " + m + " at " + k, rises, 1);
            }
        }
        ForcedRings y = Due.led("07070707");
        due.is("17 the least of 6", y.pattern(6, 0), 123450);
        due.is("17 the greatest of 6", y.pattern(6, 119), 543102);
        due.is("18 is there", y.has(5, 24310), 1);
        due.is("18 not one ring", y.has(6, 103254), 0);
        due.is("18 not of that many", y.has(5, 2310), 0);
        due.is("18 below 0", y.has(3, -120), 0);
        due.is("18 least", y.has(3, LEAST), 0);
        due.is("18 most", y.has(3, MOST), 0);
    }

    private static void afterChanges() {
        ForcedRings x = Due.led("120");
        due.is("17 before", x.pattern(3, 0), 120);
        x.turn(1, 3, 0);
        due.is("17 turned back", x.pattern(3, 0), 201);
        due.is("17 just one", x.pattern(3, -1), 1);
        x.back();
        due.is("17 taken back", x.pattern(3, 0), 120);
        x.way(1);
        due.is("17 on a circle", x.pattern(3, 0), STATE);
        x.way(0);
        due.is("17 on a line again", x.pattern(3, 0), 120);
        x.points(3);
        due.is("17 new points", x.pattern(3, -1), 0);
        x.points(4);
        due.is("17 more points", x.pattern(3, -1), 0);
    }

    private static void refusals() {
        ForcedRings x = Due.led("120");
        ForcedRings y = Due.onCircle("120");
        for (int bad : new int[] {LEAST, -1, 0, 1, 7, MOST}) {
            due.is("17 m " + bad, x.pattern(bad, 0), BAD);
            due.is("17 m " + bad + " on a circle", y.pattern(bad, 0), BAD);
            due.is("18 m " + bad, x.has(bad, 10), BAD);
            due.is("18 m " + bad + " on a circle", y.has(bad, 10), BAD);
        }
        for (int bad : new int[] {LEAST, -2}) {
            due.is("17 k " + bad, x.pattern(3, bad), BAD);
            due.is("17 k " + bad + " on a circle", y.pattern(3, bad), BAD);
        }
        due.is("17 STATE ahead of NONE", y.pattern(3, 99), STATE);
        due.is("17 how many on a circle", y.pattern(3, -1), STATE);
        due.is("18 on a circle", y.has(3, 120), STATE);
        due.is("17 k most", x.pattern(3, MOST), NONE);
    }
}
