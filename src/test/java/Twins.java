/** Two objects that went through the same calls; one of them goes through one call more. */
final class Twins {
    interface Call {
        long on(ForcedRings x);
    }

    private final ForcedRings one = wellUsed();
    private final ForcedRings other = wellUsed();

    /** Five points on a line, five deeds, an image of a circle, the reasons of a fault, a text that has begun. */
    private static ForcedRings wellUsed() {
        ForcedRings x = new ForcedRings();
        x.points(4);
        x.way(1);
        x.lead(0, 3);
        x.image();
        x.points(5);
        x.way(0);
        Due.readText(x, "(0)(");
        int[] led = {2, 4, 3, 1, 0};
        for (int i = 0; i < led.length; i++) {
            x.lead(i, led[i]);
        }
        Due.feedAll(x, "(1 2");
        askMuch(x);
        return x;
    }

    /** What an object keeps of its answers must not answer for a call that it refuses. */
    private static void askMuch(ForcedRings x) {
        x.growth(3, 1, 1);
        x.polynomial(2);
        x.paths(3, 1, 30);
        x.loops(30, 1);
        x.covers(3, 2);
        x.pattern(5, 0);
        x.has(6, 123450);
    }

    void both(Call call) {
        call.on(one);
        call.on(other);
    }

    long one(Call call) {
        return call.on(one);
    }

    /** What of the two can be told apart, from where they stand to what they come back to: nothing, if it is empty. */
    String difference() {
        StringBuilder told = new StringBuilder();
        compareNow("", told);
        compare("read() of the tape", Twins::readTape, told);
        compareNow(" behind the tape", told);
        for (int i = 1; i <= 12; i++) {
            compare("back " + i, ForcedRings::back, told);
            compare("map() behind back " + i, ForcedRings::map, told);
        }
        compare("undo()", ForcedRings::undo, told);
        compareNow(" behind undo", told);
        return told.toString();
    }

    /** What stands on the tape shows by read() alone; one more byte makes a text of that which has begun. */
    private static long readTape(ForcedRings x) {
        if (x.count(4) < 60) {
            x.feed(')');
        }
        return x.read();
    }

    private void compareNow(String when, StringBuilder told) {
        compare("map()" + when, ForcedRings::map, told);
        for (int i = 0; i < 5; i++) {
            int what = i;
            compare("count(" + what + ")" + when, x -> x.count(what), told);
        }
        for (int i = 0; i < 3; i++) {
            int layer = i;
            compare("why(" + layer + ")" + when, x -> x.why(layer), told);
        }
        compare("allForced()" + when, ForcedRings::allForced, told);
        compare("pattern(3, -1)" + when, x -> x.pattern(3, -1), told);
    }

    private void compare(String what, Call call, StringBuilder told) {
        long now = call.on(one);
        long due = call.on(other);
        if (now != due) {
            told.append("; ").append(what).append(" is ").append(now).append(", due is ").append(due);
        }
    }
}
