/** Promises 19 and 20: growth, polynomial. */
public final class GrowthTest {
    private static final long NO = Long.MIN_VALUE;
    private static final int LEAST = Integer.MIN_VALUE;
    private static final int MOST = Integer.MAX_VALUE;
    private static final Due due = new Due("GrowthTest");

    public static void main(String[] args) {
        growth();
        growthWhereCountsEnd();
        polynomial();
        due.end();
    }

    private static void fractions(ForcedRings x, int k, long... wanted) {
        String name = "19 of " + x.map() + " at " + k;
        due.is(name + " least above", x.growth(k, 0, 0), wanted[0]);
        due.is(name + " least below", x.growth(k, 0, 1), wanted[1]);
        due.is(name + " greatest above", x.growth(k, 1, 0), wanted[2]);
        due.is(name + " greatest below", x.growth(k, 1, 1), wanted[3]);
    }

    private static void growth() {
        // Counts of the pieces: 1 1, 1 2, 2 3, 3 5, ..
        ForcedRings x = Due.led("120");
        fractions(x, 0, 1, 1, 2, 1);
        fractions(x, 1, 3, 2, 2, 1);
        fractions(x, 2, 3, 2, 5, 3);
        fractions(x, 10, 144, 89, 233, 144);
        // Each piece covers all 7: 7 to the 11th by 7 to the 10th, in lowest terms.
        fractions(Due.led("07070707"), 10, 7, 1, 7, 1);
        // On a circle from 0 to 2, from 2 forward to 1, from 1 forward to 0: each covers two.
        fractions(Due.onCircle("021"), 0, 2, 1, 2, 1);
        for (int bad : new int[] {LEAST, -1, 11, MOST}) {
            due.is("19 k " + bad, x.growth(bad, 0, 0), NO);
        }
        for (int bad : new int[] {LEAST, -1, 2, MOST}) {
            due.is("19 what " + bad, x.growth(0, bad, 0), NO);
            due.is("19 part " + bad, x.growth(0, 0, bad), NO);
        }
    }

    private static void growthWhereCountsEnd() {
        // Piece 2 covers 1, which covers 0, which covers none.
        ForcedRings x = Due.led("0012");
        fractions(x, 0, 0, 1, 1, 1);
        fractions(x, 1, 0, 1, 1, 1);
        fractions(x, 2, 0, 1, 0, 1);
        due.is("19 all counts 0", x.growth(3, 0, 0), NO);
        due.is("19 all counts 0, below", x.growth(3, 1, 1), NO);
        fractions(Due.led("00"), 0, 0, 1, 0, 1);
        due.is("19 none", Due.led("00").growth(1, 0, 0), NO);
    }

    private static void numbers(ForcedRings x, long... wanted) {
        String name = "20 of " + x.map();
        for (int k = 0; k < wanted.length; k++) {
            due.is(name + " at " + k, x.polynomial(k), wanted[k]);
        }
        due.is(name + " beyond", x.polynomial(wanted.length), NO);
    }

    private static void polynomial() {
        numbers(Due.led("120"), -1, -1, 1);
        numbers(Due.led("00"), 0, 1);
        numbers(Due.led("01"), -1, 1);
        // Three pieces that cover themselves alone: t less 1, three times multiplied.
        numbers(Due.led("0123"), -1, 3, -3, 1);
        // Each covers all 7: t to the 7th less 7 times t to the 6th.
        numbers(Due.led("07070707"), 0, 0, 0, 0, 0, 0, -7, 1);
        // Round a circle of 8: t to the 8th less 1.
        numbers(Due.onCircle("12345670"), -1, 0, 0, 0, 0, 0, 0, 0, 1);
        // The ring of 5 that forces no 3: multiplied by t + 1 it is t5 - 2 t3 - 1.
        numbers(Due.led("24310"), -1, 1, -1, -1, 1);
        ForcedRings x = new ForcedRings();
        for (int bad : new int[] {LEAST, -1, 3, 9, MOST}) {
            due.is("20 k " + bad, x.polynomial(bad), NO);
        }
    }
}
