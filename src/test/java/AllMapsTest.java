/** Promises 5 to 21: every map of two, three and four points, on a line and on a circle, compared with the model. */
public final class AllMapsTest {
    private static final Due due = new Due("AllMapsTest");

    private final ForcedRings x = new ForcedRings();
    private final Model model = new Model();
    private final String heading;

    private AllMapsTest(int n, int map, int way) {
        heading = n + " points, map number " + map + ", way " + way + ": ";
        x.points(n);
        model.points(n);
        x.way(way);
        model.way(way);
        int rest = map;
        for (int i = 0; i < n; i++) {
            x.lead(i, rest % n);
            model.lead(i, rest % n);
            rest /= n;
        }
    }

    public static void main(String[] args) {
        int maps = 0;
        for (int n = 2; n <= 4; n++) {
            int amount = (int) Math.round(Math.pow(n, n));
            for (int map = 0; map < amount; map++) {
                for (int way = 0; way <= 1; way++) {
                    askAll(n, map, way);
                    maps++;
                }
            }
        }
        due.is("maps", maps, 2 * (4 + 27 + 256));
        due.end();
    }

    /** No object comes near its 512th call: each group of questions has one of its own. */
    private static void askAll(int n, int map, int way) {
        new AllMapsTest(n, map, way).askPoints(n);
        new AllMapsTest(n, map, way).askPieces(n);
        new AllMapsTest(n, map, way).askLoops();
        new AllMapsTest(n, map, way).askPatterns();
        new AllMapsTest(n, map, way).askGrowth();
        new AllMapsTest(n, map, way).turnRound();
    }

    private void is(String call, long got, long want) {
        due.is(heading + call, got, want);
    }

    private void askPoints(int n) {
        is("map", x.map(), model.map());
        for (int i = -1; i <= n; i++) {
            for (int what = -1; what <= 4; what++) {
                is("of " + i + " " + what, x.of(i, what), model.of(i, what));
                is("ring " + i + " " + what, x.ring(i, what), model.ring(i, what));
            }
            for (int k = -1; k <= 5; k++) {
                is("taken " + i + " " + k, x.taken(i, k), model.taken(i, k));
            }
        }
        for (int what = -1; what <= 4; what++) {
            is("rings " + what, x.rings(what), model.rings(what));
        }
    }

    private void askPieces(int n) {
        is("count 2", x.count(2), model.count(2));
        for (int piece = -1; piece <= n; piece++) {
            for (int what = -1; what <= 3; what++) {
                is("covers " + piece + " " + what, x.covers(piece, what), model.covers(piece, what));
            }
            for (int other = -1; other <= n; other++) {
                for (int k = -1; k <= 31; k += k < 4 ? 1 : 9) {
                    is("paths " + piece + " " + other + " " + k, x.paths(piece, other, k), model.paths(piece, other, k));
                }
            }
        }
    }

    private void askLoops() {
        for (int m = 0; m <= 31; m++) {
            for (int what = -1; what <= 2; what++) {
                is("loops " + m + " " + what, x.loops(m, what), model.loops(m, what));
            }
            is("forced " + m, x.forced(m), model.forced(m));
        }
        is("allForced", x.allForced(), model.allForced());
    }

    private void askPatterns() {
        for (int m = 1; m <= 7; m++) {
            int amount = model.pattern(m, -1);
            for (int k = -2; k <= Math.max(amount, 0); k++) {
                int figures = model.pattern(m, k);
                is("pattern " + m + " " + k, x.pattern(m, k), figures);
                is("has " + m + " " + figures, x.has(m, figures), model.has(m, figures));
                is("has " + m + " " + (figures + 1), x.has(m, figures + 1), model.has(m, figures + 1));
            }
        }
    }

    private void askGrowth() {
        for (int k = -1; k <= 11; k++) {
            for (int what = 0; what <= 1; what++) {
                for (int part = 0; part <= 1; part++) {
                    is("growth " + k + " " + what + " " + part, x.growth(k, what, part), model.growth(k, what, part));
                }
            }
            is("polynomial " + k, x.polynomial(k), model.polynomial(k));
        }
    }

    private void turnRound() {
        for (int turning = 0; turning <= 5; turning++) {
            for (int c = -1; c <= 8; c++) {
                is("turn " + turning + " " + c, x.turn(1, turning, c), model.turn(1, turning, c));
                is("map behind it", x.map(), model.map());
                is("back", x.back(), model.back());
                is("map behind back", x.map(), model.map());
            }
        }
    }
}
