/** Promises 10 to 16: covers, paths, loops, forced, allForced, ahead, order. */
public final class PiecesTest {
    private static final int BAD = -2;
    private static final long NO = Long.MIN_VALUE;
    private static final int LEAST = Integer.MIN_VALUE;
    private static final int MOST = Integer.MAX_VALUE;
    private static final Due due = new Due("PiecesTest");

    public static void main(String[] args) {
        coversOnLine();
        coversOnCircle();
        paths();
        loops();
        forced();
        ahead();
        order();
        due.end();
    }

    private static void coversOnLine() {
        ForcedRings x = Due.led("24310");
        int[] covered = {12, 8, 6, 1};
        int[] falls = {0, 1, 1, 1};
        for (int i = 0; i < 4; i++) {
            due.is("10 covered by " + i, x.covers(i, 0), covered[i]);
            due.is("10 falls " + i, x.covers(i, 1), falls[i]);
            due.is("10 reached from " + i, x.covers(i, 2), 15);
        }
        ForcedRings y = Due.led("0012");
        due.is("10 covers none", y.covers(0, 0), 0);
        due.is("10 falls not", y.covers(0, 1), 0);
        due.is("10 reaches none", y.covers(0, 2), 0);
        due.is("10 reaches by steps", y.covers(2, 2), 3);
        due.is("10 not itself", y.covers(2, 0), 2);
        due.is("10 widest", Due.led("07000000").covers(1, 0), 127);
        for (int bad : new int[] {LEAST, -1, 3, MOST}) {
            due.is("10 piece " + bad, y.covers(bad, 0), BAD);
            due.is("10 what " + bad, y.covers(0, bad), BAD);
        }
    }

    private static void coversOnCircle() {
        ForcedRings x = Due.onCircle("2013");
        // From 2 forward to 0, from 0 to 1, from 1 to 3, from 3 to 2.
        int[] covered = {4 + 8, 1, 2 + 4, 8 + 1 + 2};
        for (int i = 0; i < 4; i++) {
            due.is("10 on a circle, by " + i, x.covers(i, 0), covered[i]);
            due.is("10 falls on a circle " + i, x.covers(i, 1), 0);
        }
        due.is("10 a last piece", x.covers(4, 0), BAD);
        ForcedRings same = Due.onCircle("222");
        due.is("10 the same point", same.covers(2, 0), 0);
        due.is("10 two on a circle", Due.onCircle("10").covers(0, 0), 2);
        due.is("10 the last of two", Due.onCircle("10").covers(1, 0), 1);
        due.is("10 the last of eight", Due.onCircle("12345670").covers(7, 0), 1);
    }

    private static void paths() {
        ForcedRings x = Due.led("120");
        long[] fibonacci = {0, 1, 1, 2, 3, 5, 8, 13};
        for (int k = 0; k < 8; k++) {
            due.is("11 to the other, " + k, x.paths(0, 1, k), fibonacci[k]);
            due.is("11 back, " + k, x.paths(1, 0, k), fibonacci[k]);
        }
        due.is("11 of 0 to itself", x.paths(1, 1, 0), 1);
        due.is("11 of 0 to the other", x.paths(1, 0, 0), 0);
        due.is("11 of 30", x.paths(1, 1, 30), 1346269);
        for (int bad : new int[] {LEAST, -1, 2, MOST}) {
            due.is("11 piece " + bad, x.paths(bad, 0, 1), NO);
            due.is("11 other " + bad, x.paths(0, bad, 1), NO);
        }
        for (int bad : new int[] {LEAST, -1, 31, MOST}) {
            due.is("11 k " + bad, x.paths(0, 0, bad), NO);
        }
        long wrapped = 1;
        for (int i = 0; i < 29; i++) {
            wrapped *= 7;
        }
        due.is("11 wraps", Due.led("07070707").paths(3, 5, 30), wrapped);
    }

    private static void loops() {
        ForcedRings x = Due.led("120");
        long[] all = {0, 1, 3, 4, 7, 11, 18, 29, 47, 76, 123, 199, 322};
        long[] simple = {0, 1, 2, 3, 4, 10, 12, 28, 40, 72, 110, 198, 300};
        for (int m = 1; m <= 12; m++) {
            due.is("12 loops of " + m, x.loops(m, 0), all[m]);
            due.is("12 simple ones of " + m, x.loops(m, 1), simple[m]);
        }
        ForcedRings none = Due.led("00");
        due.is("12 none", none.loops(1, 0), 0);
        due.is("12 none of 30", none.loops(30, 1), 0);
        ForcedRings still = Due.led("01");
        due.is("12 each several times", still.loops(30, 0), 1);
        due.is("12 but simple just once", still.loops(30, 1), 0);
        long wrapped = 1;
        for (int i = 0; i < 30; i++) {
            wrapped *= 7;
        }
        due.is("12 wraps", Due.led("07070707").loops(30, 0), wrapped);
        due.is("12 a circle has its own", Due.onCircle("120").loops(1, 0), 0);
        due.is("12 round it", Due.onCircle("120").loops(3, 1), 3);
        for (int bad : new int[] {LEAST, -1, 0, 31, MOST}) {
            due.is("12 m " + bad, x.loops(bad, 0), NO);
        }
        for (int bad : new int[] {LEAST, -1, 2, MOST}) {
            due.is("12 what " + bad, x.loops(1, bad), NO);
        }
    }

    private static void forced() {
        // A ring of 5 without one of 3 before it: 3 alone isn't forced.
        check("24310", 8190 - 8);
        // A ring of 7 that forces neither 3 nor 5.
        check("3654210", 8190 - 8 - 32);
        check("120", 8190);
        check("012", 2);
        check("10", 6);
        // A ring of 4 that forces 4, 2, 1 alone.
        check("2310", 2 + 4 + 16);
        // A ring of 6 that is one of 3, twice: 6 and all behind it in the old order.
        check("345120", 2 + 4 + 16 + 64 + 256 + 1024 + 4096);
        // No loop of 1 here, but a point led to itself.
        check("00", 2);
        check("210", 6);
        // Nor a simple loop of 2 here, but a ring of 2 ahead of a ring of 1.
        check("102", 6);
        ForcedRings round = Due.onCircle("120");
        due.is("13 on a circle 1", round.forced(1), 0);
        due.is("13 on a circle 3", round.forced(3), 1);
        due.is("14 on a circle", round.allForced(), 8);
        ForcedRings x = new ForcedRings();
        for (int bad : new int[] {LEAST, -1, 0, 13, MOST}) {
            due.is("13 m " + bad, x.forced(bad), BAD);
        }
    }

    private static void check(String figures, int bits) {
        ForcedRings x = Due.led(figures);
        due.is("14 of " + figures, x.allForced(), bits);
        for (int m = 1; m <= 12; m++) {
            due.is("13 of " + figures + ": " + m, x.forced(m), bits >> m & 1);
        }
    }

    private static void ahead() {
        ForcedRings x = new ForcedRings();
        int[] ordered = new int[99];
        int amount = 0;
        for (int power = 1; power <= 64; power *= 2) {
            for (int odd = 3; odd * power <= 99; odd += 2) {
                ordered[amount++] = odd * power;
            }
        }
        for (int power = 64; power >= 1; power /= 2) {
            ordered[amount++] = power;
        }
        due.is("15 all numbers", amount, 99);
        ForcedRings y = x;
        for (int i = 0; i < 99; i++) {
            for (int j = 0; j < 99; j++) {
                if ((i * 99 + j) % 500 == 0) {
                    y = new ForcedRings();
                }
                String call = "15 ahead(" + ordered[i] + ", " + ordered[j] + ")";
                due.is(call, y.ahead(ordered[i], ordered[j]), i < j ? 1 : 0);
            }
        }
        for (int bad : new int[] {LEAST, -1, 0, 100, MOST}) {
            due.is("15 a " + bad, x.ahead(bad, 1), BAD);
            due.is("15 b " + bad, x.ahead(1, bad), BAD);
        }
    }

    private static void order() {
        ForcedRings x = new ForcedRings();
        int[] ordered = {3, 5, 7, 9, 11, 6, 10, 12, 8, 4, 2, 1};
        for (int i = 0; i < 12; i++) {
            due.is("16 order(" + i + ", 0)", x.order(i, 0), ordered[i]);
            due.is("16 order(" + ordered[i] + ", 1)", x.order(ordered[i], 1), i);
        }
        for (int bad : new int[] {LEAST, -1, 12, MOST}) {
            due.is("16 place " + bad, x.order(bad, 0), BAD);
        }
        for (int bad : new int[] {LEAST, -1, 0, 13, MOST}) {
            due.is("16 number " + bad, x.order(bad, 1), BAD);
        }
        for (int bad : new int[] {LEAST, -1, 2, MOST}) {
            due.is("16 way " + bad, x.order(3, bad), BAD);
        }
    }
}
