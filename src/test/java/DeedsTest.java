/** Promises 25 to 28: back, image, undo, count. */
public final class DeedsTest {
    private static final int BAD = -2;
    private static final int STATE = -3;
    private static final Due due = new Due("DeedsTest");

    public static void main(String[] args) {
        back();
        tenAtMost();
        whatLeavesDeeds();
        imageAndUndo();
        count();
        due.end();
    }

    private static void back() {
        ForcedRings x = new ForcedRings();
        due.is("25 none", x.back(), STATE);
        x.lead(0, 1);
        x.lead(0, 2);
        x.lead(1, 1);
        due.is("25 third", x.back(), 2);
        due.is("25 map behind third", x.map(), 212);
        due.is("25 second", x.back(), 1);
        due.is("25 map behind second", x.map(), 112);
        x.turn(1, 1, 0);
        due.is("25 two again", x.count(3), 2);
        due.is("25 turn", x.back(), 1);
        due.is("25 first", x.back(), 0);
        due.is("25 map of the start", x.map(), 12);
        due.is("25 none again", x.back(), STATE);
        due.is("25 none leaves the map", x.map(), 12);
    }

    private static void tenAtMost() {
        ForcedRings x = new ForcedRings();
        x.points(8);
        for (int i = 0; i < 8; i++) {
            x.lead(i, 7);
        }
        x.lead(0, 1);
        x.lead(1, 1);
        due.is("25 ten", x.count(3), 10);
        x.lead(2, 1);
        due.is("25 ten behind eleven", x.count(3), 10);
        for (int left = 9; left >= 0; left--) {
            due.is("25 left " + left, x.back(), left);
        }
        due.is("25 the oldest stays", x.map(), 71234567);
        due.is("25 no eleventh", x.back(), STATE);
        for (int i = 0; i < 25; i++) {
            x.lead(7, i % 8);
        }
        for (int i = 0; i < 10; i++) {
            x.back();
        }
        due.is("25 the latest ten of many", x.of(7, 0), 14 % 8);
        due.is("25 none then", x.back(), STATE);
    }

    private static void whatLeavesDeeds() {
        ForcedRings x = new ForcedRings();
        x.lead(0, 0);
        due.is("25 by nothing otherwise", x.count(3), 1);
        Due.readText(x, "(0)");
        due.is("25 by a text that changes nothing", x.count(3), 2);
        Due.readText(x, "(0");
        due.is("25 not by a fault", x.count(3), 2);
        x.image();
        due.is("25 not by an image", x.count(3), 2);
        x.feed('(');
        due.is("25 not by a byte", x.count(3), 2);
        due.is("25 back", x.back(), 1);
        due.is("25 THE TAPE stays", x.count(4), 1);
        x.points(3);
        due.is("25 none behind points", x.back(), STATE);
        x.lead(0, 1);
        x.way(0);
        due.is("25 none behind way", x.back(), STATE);
        due.is("25 map behind way", x.map(), 112);
    }

    private static void imageAndUndo() {
        ForcedRings x = new ForcedRings();
        due.is("27 none", x.undo(), STATE);
        x.points(5);
        x.way(1);
        x.lead(4, 0);
        due.is("26 image", x.image(), 5);
        due.is("26 leaves deeds", x.count(3), 1);
        x.points(8);
        x.way(0);
        x.lead(7, 0);
        due.is("27 undo", x.undo(), 5);
        due.is("27 n", x.count(0), 5);
        due.is("27 way", x.count(1), 1);
        due.is("27 map", x.map(), 1230);
        due.is("27 no deeds", x.count(3), 0);
        due.is("27 no back", x.back(), STATE);
        x.lead(0, 4);
        due.is("27 the image stays", x.undo(), 5);
        due.is("27 as it was kept", x.map(), 1230);
        due.is("27 once more, without a change", x.undo(), 5);
        x.points(2);
        due.is("26 another image", x.image(), 2);
        x.points(7);
        due.is("27 the latest image", x.undo(), 2);
        due.is("27 its map", x.map(), 1);
        due.is("27 its way", x.count(1), 1);
        due.is("27 points beyond it", x.lead(4, 0), BAD);
        x.points(8);
        due.is("27 and new ones", x.map(), 1234567);
    }

    private static void count() {
        ForcedRings x = new ForcedRings();
        x.points(7);
        due.is("28 n", x.count(0), 7);
        due.is("28 pieces on a line", x.count(2), 6);
        x.way(1);
        due.is("28 way", x.count(1), 1);
        due.is("28 pieces on a circle", x.count(2), 7);
        x.lead(0, 0);
        due.is("28 deeds", x.count(3), 1);
        x.feed(0);
        x.feed(1);
        due.is("28 bytes", x.count(4), 2);
        due.is("28 BORN", x.count(5), 1123);
        for (int bad : new int[] {Integer.MIN_VALUE, -1, 6, Integer.MAX_VALUE}) {
            due.is("28 what " + bad, x.count(bad), BAD);
        }
    }
}
