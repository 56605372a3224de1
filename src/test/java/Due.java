/** Compares answers with those that are due, and ends a test program. */
final class Due {
    private final String test;
    private int compared;
    private int wrong;

    Due(String test) {
        this.test = test;
    }

    void is(String call, long got, long want) {
        compared++;
        if (got != want) {
            wrong++;
            System.out.println(test + ": " + call + " answered " + got + ", due is " + want);
        }
    }

    /** Ends with exit code 1, if one answer was wrong or none was compared. */
    void end() {
        if (wrong > 0 || compared == 0) {
            System.out.println(test + ": " + wrong + " of " + compared + " answers are wrong");
            System.exit(1);
        }
        System.out.println(test + ": " + compared + " answers are as due");
    }

    /** An object with as many points as there are figures, led as these say. */
    static ForcedRings led(String figures) {
        ForcedRings x = new ForcedRings();
        x.points(figures.length());
        for (int i = 0; i < figures.length(); i++) {
            x.lead(i, figures.charAt(i) - '0');
        }
        return x;
    }

    static ForcedRings onCircle(String figures) {
        ForcedRings x = led(figures);
        x.way(1);
        return x;
    }

    static void feedAll(ForcedRings x, String text) {
        for (int i = 0; i < text.length(); i++) {
            x.feed(text.charAt(i));
        }
    }

    static int readText(ForcedRings x, String text) {
        feedAll(x, text);
        return x.read();
    }
}
