/** Promises 1 to 9: a new object, points, way, lead, of, map, rings, ring, taken. */
public final class PointsTest {
    private static final int BAD = -2;
    private static final int LEAST = Integer.MIN_VALUE;
    private static final int MOST = Integer.MAX_VALUE;
    private static final Due due = new Due("PointsTest");

    public static void main(String[] args) {
        newObject();
        points();
        way();
        lead();
        of();
        map();
        rings();
        ring();
        taken();
        due.end();
    }

    private static void newObject() {
        ForcedRings x = new ForcedRings();
        due.is("1 n", x.count(0), 3);
        due.is("1 way", x.count(1), 0);
        due.is("1 pieces", x.count(2), 2);
        due.is("1 map", x.map(), 12);
        due.is("1 deeds", x.count(3), 0);
        due.is("1 tape", x.count(4), 0);
        due.is("1 image", x.undo(), -3);
        due.is("1 why", x.why(0), Long.MIN_VALUE);
        due.is("1 BORN", x.count(5), 1123);
        due.is("1 BORN of another", new ForcedRings().count(5), 1123);
        due.is("NONE", ForcedRings.NONE, -1);
        due.is("BAD", ForcedRings.BAD, -2);
        due.is("STATE", ForcedRings.STATE, -3);
        due.is("FULL", ForcedRings.FULL, -4);
        due.is("NO", ForcedRings.NO, Long.MIN_VALUE);
    }

    private static void points() {
        ForcedRings x = new ForcedRings();
        due.is("2 points(8)", x.points(8), 3);
        due.is("2 map of 8", x.map(), 1234567);
        due.is("2 points(2)", x.points(2), 8);
        due.is("2 map of 2", x.map(), 1);
        for (int n : new int[] {LEAST, -1, 0, 1, 9, MOST}) {
            due.is("2 points(" + n + ")", x.points(n), BAD);
        }
        due.is("2 n stays", x.count(0), 2);
        x.lead(0, 1);
        due.is("2 BAD leaves the deed", x.points(9), BAD);
        due.is("2 deed", x.count(3), 1);
        due.is("2 BAD leaves the map", x.map(), 11);
        due.is("2 the same number", x.points(2), 2);
        due.is("2 led to themselves", x.map(), 1);
        due.is("2 no deeds then", x.count(3), 0);
        x.way(1);
        x.points(5);
        due.is("2 WAY stays", x.count(1), 1);
    }

    private static void way() {
        ForcedRings x = Due.led("120");
        due.is("3 way(1)", x.way(1), 0);
        due.is("3 map stays", x.map(), 120);
        due.is("3 no deeds then", x.count(3), 0);
        x.lead(0, 0);
        for (int w : new int[] {LEAST, -1, 2, MOST}) {
            due.is("3 way(" + w + ")", x.way(w), BAD);
        }
        due.is("3 BAD leaves WAY", x.count(1), 1);
        due.is("3 BAD leaves the deed", x.count(3), 1);
        due.is("3 the same way", x.way(1), 1);
        due.is("3 no deeds by the same way", x.count(3), 0);
        due.is("3 map stays again", x.map(), 20);
        due.is("3 way(0)", x.way(0), 1);
    }

    private static void lead() {
        ForcedRings x = new ForcedRings();
        due.is("4 lead(0, 2)", x.lead(0, 2), 0);
        due.is("4 lead(0, 1)", x.lead(0, 1), 2);
        due.is("4 lead(2, 2)", x.lead(2, 2), 2);
        due.is("4 map", x.map(), 112);
        due.is("4 each is a deed", x.count(3), 3);
        for (int bad : new int[] {LEAST, -1, 3, 8, MOST}) {
            due.is("4 i " + bad, x.lead(bad, 0), BAD);
            due.is("4 j " + bad, x.lead(0, bad), BAD);
        }
        due.is("4 BAD leaves the map", x.map(), 112);
        due.is("4 BAD is no deed", x.count(3), 3);
    }

    private static void of() {
        // 0 and 1 come by tails to the ring 2 4 3, 5 is led to itself.
        ForcedRings x = Due.led("124235");
        int[] tails = {2, 1, 0, 0, 0, 0};
        for (int i = 0; i < 5; i++) {
            due.is("5 tail of " + i, x.of(i, 1), tails[i]);
            due.is("5 ring of " + i, x.of(i, 2), 4 + 8 + 16);
            due.is("5 ring's points of " + i, x.of(i, 3), 3);
        }
        due.is("5 led 2", x.of(2, 0), 4);
        due.is("5 led 5", x.of(5, 0), 5);
        due.is("5 tail of 5", x.of(5, 1), 0);
        due.is("5 ring of 5", x.of(5, 2), 32);
        due.is("5 points of 5", x.of(5, 3), 1);
        ForcedRings longest = Due.led("12345677");
        due.is("5 longest tail", longest.of(0, 1), 7);
        due.is("5 its ring", longest.of(0, 2), 128);
        due.is("5 the widest ring", Due.led("12345670").of(3, 2), 255);
        for (int bad : new int[] {LEAST, -1, 6, MOST}) {
            due.is("5 point " + bad, x.of(bad, 0), BAD);
        }
        for (int bad : new int[] {LEAST, -1, 4, MOST}) {
            due.is("5 what " + bad, x.of(0, bad), BAD);
        }
    }

    private static void map() {
        due.is("6 highest", Due.led("77777777").map(), 77777777);
        due.is("6 zeros ahead", Due.led("00000001").map(), 1);
        due.is("6 none", Due.led("00").map(), 0);
        due.is("6 on a circle", Due.onCircle("3012").map(), 3012);
    }

    private static void rings() {
        ForcedRings x = Due.led("10325644");
        due.is("7 rings", x.rings(0), 3);
        due.is("7 points on rings", x.rings(1), 7);
        due.is("7 greatest", x.rings(2), 3);
        due.is("7 all", x.rings(3), 0);
        ForcedRings y = Due.led("12345670");
        due.is("7 one ring", y.rings(0), 1);
        due.is("7 of 8", y.rings(1), 8);
        due.is("7 greatest of 8", y.rings(2), 8);
        due.is("7 all 8", y.rings(3), 1);
        ForcedRings still = new ForcedRings();
        due.is("7 each is a ring", still.rings(0), 3);
        due.is("7 all are on rings", still.rings(1), 3);
        due.is("7 greatest of 1", still.rings(2), 1);
        due.is("7 all still", still.rings(3), 1);
        due.is("7 the first on none", Due.led("1122").rings(1), 2);
        due.is("7 not all", Due.led("1122").rings(3), 0);
        for (int bad : new int[] {LEAST, -1, 4, MOST}) {
            due.is("7 what " + bad, x.rings(bad), BAD);
        }
    }

    private static void ring() {
        // By least points: 0 1, 2 3, 4 5 6; 7 is on none.
        ForcedRings x = Due.led("10325644");
        int[] kinds = {4, 4, 2};
        int[] amounts = {2, 2, 3};
        int[] leasts = {0, 2, 4};
        for (int i = 0; i < 3; i++) {
            due.is("8 kind " + i, x.ring(i, 0), kinds[i]);
            due.is("8 points " + i, x.ring(i, 1), amounts[i]);
            due.is("8 least " + i, x.ring(i, 2), leasts[i]);
        }
        for (int bad : new int[] {LEAST, -1, 3, MOST}) {
            due.is("8 ring " + bad, x.ring(bad, 0), BAD);
            due.is("8 what " + bad, x.ring(0, bad), BAD);
        }
        String[] rounds = {"00", "10", "120", "1230", "12340", "123450", "1234560", "12345670"};
        int[] kindOf = {3, 4, 2, 1, 2, 1, 2, 1};
        for (int i = 0; i < 8; i++) {
            due.is("8 kind of " + (i + 1), Due.led(rounds[i]).ring(0, 0), kindOf[i]);
        }
    }

    private static void taken() {
        String[] rounds = {"00", "10", "120", "1230", "12340", "123450", "1234560", "12345670"};
        String[] fits = {"0 2 3", "0 1 4", "0 2", "0 1", "0 2", "0 1", "0 2", "0 1"};
        for (int i = 0; i < 8; i++) {
            ForcedRings x = Due.led(rounds[i]);
            for (int k = 0; k <= 4; k++) {
                boolean fit = fits[i].indexOf('0' + k) >= 0;
                due.is("9 of " + (i + 1) + " for " + k, x.taken(0, k), fit ? i + 1 : -13);
            }
        }
        ForcedRings x = Due.led("102");
        due.is("9 second ring", x.taken(1, 3), 1);
        for (int bad : new int[] {LEAST, -1, 2, MOST}) {
            due.is("9 ring " + bad, x.taken(bad, 0), BAD);
        }
        for (int bad : new int[] {LEAST, -1, 5, MOST}) {
            due.is("9 k " + bad, x.taken(0, bad), BAD);
        }
    }
}
