/** All promises: long runs of calls, each answered by ForcedRings and by the model. */
public final class ModelTest {
    private static final Due due = new Due("ModelTest");
    private static final int[] ODD_ONES = {Integer.MIN_VALUE, -2, -1, 9, 31, 100, 128, Integer.MAX_VALUE};
    private static final int[] OFTEN = {2, 2, 2, 8, 20, 20, 21, 21, 21, 22, 24, 25, 26};

    private final ForcedRings x = new ForcedRings();
    private final Model model = new Model();
    private final int run;
    private final int mostPoints;
    private long seed;

    private ModelTest(int run) {
        this.run = run;
        // All loops of 6 are gone through one by one in the model: of few points in most runs.
        this.mostPoints = run % 10 == 0 ? 8 : 5;
        this.seed = run;
    }

    public static void main(String[] args) {
        for (int run = 1; run <= 200; run++) {
            new ModelTest(run).goThrough(run % 10 == 0 ? 150 : 512);
        }
        due.end();
    }

    private void goThrough(int calls) {
        for (int i = 0; i < calls; i++) {
            int choice = some(40);
            answer(choice < 27 ? choice : OFTEN[choice - 27]);
        }
    }

    /** From 0 to below the bound: always the same row of numbers for the same run. */
    private int some(int bound) {
        seed = seed * 6364136223846793005L + 1442695040888963407L;
        return (int) ((seed >>> 33) % bound);
    }

    /** Mostly from 0 to below the bound, now and then something else. */
    private int number(int bound) {
        return some(25) == 0 ? ODD_ONES[some(ODD_ONES.length)] : some(bound);
    }

    private void is(String call, int a, int b, int c, long got, long want) {
        due.is("run " + run + ", map " + model.map() + ": " + call + "(" + a + ", " + b + ", " + c + ")", got, want);
    }

    private void answer(int call) {
        if (call < 7) {
            askPoints(call);
        } else if (call < 16) {
            askPieces(call);
        } else if (call < 20) {
            askPatterns(call);
        } else {
            askDeeds(call);
        }
        is("map", 0, 0, 0, x.map(), model.map());
    }

    private void askPoints(int call) {
        int a = number(mostPoints);
        int b = number(mostPoints);
        switch (call) {
            case 0:
                if (some(6) == 0) {
                    int n = number(mostPoints + 1);
                    n = n > mostPoints && n <= 8 ? mostPoints : n;
                    is("points", n, 0, 0, x.points(n), model.points(n));
                }
                break;
            case 1:
                if (some(3) == 0) {
                    int w = number(3);
                    is("way", w, 0, 0, x.way(w), model.way(w));
                }
                break;
            case 2: is("lead", a, b, 0, x.lead(a, b), model.lead(a, b)); break;
            case 3: is("of", a, b, 0, x.of(a, b), model.of(a, b)); break;
            case 4: is("rings", b, 0, 0, x.rings(b), model.rings(b)); break;
            case 5: is("ring", a, b, 0, x.ring(a, b), model.ring(a, b)); break;
            default: is("taken", a, b, 0, x.taken(a, b), model.taken(a, b)); break;
        }
    }

    private void askPieces(int call) {
        int a = number(mostPoints);
        int b = number(mostPoints);
        int m = number(32);
        int what = number(3);
        switch (call) {
            case 7:
            case 8: is("covers", a, what, 0, x.covers(a, what), model.covers(a, what)); break;
            case 9: is("paths", a, b, m, x.paths(a, b, m), model.paths(a, b, m)); break;
            case 10:
            case 11: is("loops", m, what, 0, x.loops(m, what), model.loops(m, what)); break;
            case 12: is("forced", m % 14, 0, 0, x.forced(m % 14), model.forced(m % 14)); break;
            case 13: is("allForced", 0, 0, 0, x.allForced(), model.allForced()); break;
            case 14:
                int c = number(101);
                int d = number(101);
                is("ahead", c, d, 0, x.ahead(c, d), model.ahead(c, d));
                break;
            default: is("order", m % 14, what, 0, x.order(m % 14, what), model.order(m % 14, what)); break;
        }
    }

    private void askPatterns(int call) {
        int m = number(mostPoints == 8 ? 7 : 8);
        int k = some(4) == 0 ? -1 : number(some(2) == 0 ? 130 : 7);
        switch (call) {
            case 16: is("pattern", m, k, 0, x.pattern(m, k), model.pattern(m, k)); break;
            case 17:
                int figures = model.pattern(m, k);
                figures = some(5) == 0 ? figures + some(3) : figures;
                is("has", m, figures, 0, x.has(m, figures), model.has(m, figures));
                break;
            case 18:
                int step = number(12);
                int what = number(2);
                int part = number(2);
                is("growth", step, what, part, x.growth(step, what, part), model.growth(step, what, part));
                break;
            default: is("polynomial", m, 0, 0, x.polynomial(m), model.polynomial(m)); break;
        }
    }

    private void askDeeds(int call) {
        int i = number(4);
        switch (call) {
            case 20: turn(); break;
            case 21: feedText(); break;
            case 22: is("why", i, 0, 0, x.why(i), model.why(i)); break;
            case 23:
                if (some(8) == 0) {
                    is("image", 0, 0, 0, x.image(), model.image());
                } else {
                    is("read", 0, 0, 0, x.read(), model.read());
                }
                break;
            case 24:
                if (some(8) == 0) {
                    is("undo", 0, 0, 0, x.undo(), model.undo());
                }
                break;
            case 25: is("back", 0, 0, 0, x.back(), model.back()); break;
            default:
                int what = number(7);
                is("count", what, 0, 0, x.count(what), model.count(what));
                break;
        }
    }

    private void turn() {
        int n = number(7);
        int figures = 0;
        for (int i = 0; i < n && i < 7; i++) {
            figures = figures * 10 + some(50) % 11 % 6;
        }
        figures = some(20) == 0 ? number(2000000) : figures;
        int c = number(8);
        is("turn", n, figures, c, x.turn(n, figures, c), model.turn(n, figures, c));
    }

    /** A text that mostly is one, sometimes with one sign that isn't due. */
    private void feedText() {
        StringBuilder text = new StringBuilder();
        int told = 0;
        for (int left = some(10); left > 0; left--) {
            int point = some(model.count(0));
            if ((told >> point & 1) == 0 || some(40) == 0) {
                told |= 1 << point;
                text.append(text.length() == 0 ? "(" : some(3) == 0 ? ")(" : " ").append(point);
            }
        }
        text.append(')');
        if (some(3) == 0) {
            text.setCharAt(some(text.length()), "() 0123456789x".charAt(some(14)));
        }
        text.setLength(some(4) == 0 ? some(text.length() + 1) : text.length());
        for (int i = 0; i < text.length(); i++) {
            is("feed", text.charAt(i), 0, 0, x.feed(text.charAt(i)), model.feed(text.charAt(i)));
        }
        int odd = number(128);
        if (some(20) == 0) {
            is("feed", odd, 0, 0, x.feed(odd), model.feed(odd));
        }
        if (some(10) != 0) {
            is("read", 0, 0, 0, x.read(), model.read());
        }
    }
}
