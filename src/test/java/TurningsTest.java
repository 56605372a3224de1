/** Promise 21: turn. */
public final class TurningsTest {
    private static final int BAD = -2;
    private static final int LEAST = Integer.MIN_VALUE;
    private static final int MOST = Integer.MAX_VALUE;
    private static final Due due = new Due("TurningsTest");

    public static void main(String[] args) {
        each();
        oneBehindTheOther();
        deeds();
        refusals();
        due.end();
    }

    private static void turned(String figures, int n, int turnings, int c, int done, int map) {
        ForcedRings line = Due.led(figures);
        ForcedRings circle = Due.onCircle(figures);
        String name = "21 " + figures + " by " + turnings + " of " + n + ", " + c;
        due.is(name, line.turn(n, turnings, c), done);
        due.is(name + ": map", line.map(), map);
        due.is(name + " on a circle", circle.turn(n, turnings, c), done);
        due.is(name + " on a circle: map", circle.map(), map);
    }

    private static void each() {
        turned("1123", 1, 0, 0, 1, 122);
        turned("0012", 1, 0, 0, 1, 1233);
        turned("120", 1, 1, 0, 1, 201);
        turned("12340", 1, 1, 3, 1, 23401);
        turned("0012", 1, 2, 0, 1, 3112);
        turned("1203", 1, 3, 0, 1, 2013);
        turned("1200", 1, 3, 0, 0, 1200);
        turned("112", 1, 3, 0, 0, 112);
        turned("012", 1, 4, 0, 1, 12);
        turned("012", 1, 4, 1, 1, 120);
        turned("01", 1, 4, 7, 1, 10);
        turned("012", 1, 4, 7, 1, 120);
        turned("01234567", 1, 4, 7, 1, 70123456);
    }

    private static void oneBehindTheOther() {
        // First ROUND by 1, then TWICE; and the other way round.
        turned("012", 2, 41, 1, 2, 201);
        turned("012", 2, 14, 1, 2, 120);
        // The first BACK can't be, as two are led to one; TWICE then leads all to one.
        turned("0012", 3, 311, 0, 2, 0);
        turned("0012", 6, 333333, 0, 0, 12);
        turned("1203", 6, 333333, 0, 6, 1203);
        // MIRRORED five times, then BACK.
        turned("1203", 6, 3, 0, 6, 231);
    }

    private static void deeds() {
        ForcedRings x = Due.led("0012");
        int before = x.count(3);
        x.turn(1, 3, 0);
        due.is("21 leaves a deed by nothing", x.count(3), before + 1);
        x.turn(6, 111111, 0);
        due.is("21 leaves one deed", x.count(3), before + 2);
        due.is("21 twice six times", x.map(), 0);
        x.back();
        due.is("21 taken back at once", x.map(), 12);
        x.turn(1, 5, 0);
        due.is("21 BAD leaves none", x.count(3), before + 1);
    }

    private static void refusals() {
        ForcedRings x = Due.led("120");
        for (int bad : new int[] {LEAST, -1, 0, 7, MOST}) {
            due.is("21 n " + bad, x.turn(bad, 0, 0), BAD);
        }
        for (int bad : new int[] {LEAST, -1, 10, 5, 9, MOST}) {
            due.is("21 figures " + bad, x.turn(1, bad, 0), BAD);
        }
        due.is("21 one above 4", x.turn(3, 150, 0), BAD);
        due.is("21 the highest above 4", x.turn(6, 500000, 0), BAD);
        due.is("21 too many figures", x.turn(6, 1000000, 0), BAD);
        due.is("21 two for one", x.turn(1, 44, 0), BAD);
        for (int bad : new int[] {LEAST, -1, 8, MOST}) {
            due.is("21 c " + bad, x.turn(1, 0, bad), BAD);
            due.is("21 c for ROUND " + bad, x.turn(1, 4, bad), BAD);
        }
        due.is("21 BAD leaves the map", x.map(), 120);
    }
}
