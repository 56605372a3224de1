import java.lang.reflect.Method;

/** One test of one sentence: tells what it compares under the promise and the words of the document. */
final class Edge {
    static final int NONE = -1;
    static final int BAD = -2;
    static final int STATE = -3;
    static final int FULL = -4;
    static final int OTHER_KIND = -13;
    static final long NO = Long.MIN_VALUE;
    static final int LEAST = Integer.MIN_VALUE;
    static final int MOST = Integer.MAX_VALUE;

    private final Due due;
    private final Says says;
    private final String heading;
    private int compared;

    Edge(Due due, Method test) {
        this.due = due;
        this.says = test.getAnnotation(Says.class);
        this.heading = "promise " + says.promise() + ", " + test.getName() + ", \"" + says.words() + "\": ";
    }

    String words() {
        return says.words();
    }

    int compared() {
        return compared;
    }

    void is(String call, long got, long want) {
        compared++;
        due.is(heading + call, got, want);
    }

    /** The call is answered so by an object in full use, and changes nothing of it. */
    void refused(String call, long want, Twins.Call refused) {
        refusedBehind(x -> 0, call, want, refused);
    }

    /** The same behind calls that bring the object to where it refuses. */
    void refusedBehind(Twins.Call ahead, String call, long want, Twins.Call refused) {
        Twins twins = new Twins();
        twins.both(ahead);
        is(call, twins.one(refused), want);
        String difference = twins.difference();
        is(call + " changes nothing" + difference, difference.isEmpty() ? 1 : 0, 1);
    }
}
