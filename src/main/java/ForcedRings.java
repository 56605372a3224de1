/**
 * Points on a line or on a circle, each led to a point: their rings, the pieces between them,
 * what these cover, and which numbers, patterns and growth follow from that.
 */
public final class ForcedRings {
    public static final int NONE = -1, BAD = -2, STATE = -3, FULL = -4;
    public static final long NO = Long.MIN_VALUE;

    private static final int OTHER_KIND = -13;
    private static final int FAULT_BASE = -100;
    private static final int LEAST_POINTS = 2;
    private static final int MOST_POINTS = 8;
    private static final int LONGEST_LOOP = 30;
    private static final int MOST_FORCED = 12;
    private static final int LAST_IN_ORDER = 99;
    private static final int MOST_GROWTH = 10;
    private static final int MOST_TURNINGS = 6;

    private int born = 1;
    private boolean imageKept;
    private final Chart chart = new Chart();
    private final Chart kept = new Chart();
    private final Deeds deeds = new Deeds();
    private final Tape tape = new Tape();
    private final Text text = new Text();
    private final Pieces pieces = new Pieces();
    private final Patterns patterns = new Patterns();

    // The document wants BORN made by two initialisers, in this order, and by the constructor.
    {
        born = born * 10 + 1;
    }

    {
        born = born * 10 + 2;
    }

    public ForcedRings() {
        born = born * 10 + 3;
    }

    // ---- points

    public int points(int n) {
        if (n < LEAST_POINTS || n > MOST_POINTS) {
            return BAD;
        }
        int before = chart.size;
        chart.startWith(n);
        deeds.forget();
        return before;
    }

    public int way(int w) {
        if (w != Chart.LINE && w != Chart.CIRCLE) {
            return BAD;
        }
        int before = chart.way;
        chart.way = w;
        deeds.forget();
        return before;
    }

    public int lead(int i, int j) {
        if (!chart.holds(i) || !chart.holds(j)) {
            return BAD;
        }
        deeds.keep(chart.packed());
        int before = chart.led[i];
        chart.led[i] = j;
        return before;
    }

    public int of(int i, int what) {
        if (!chart.holds(i)) {
            return BAD;
        }
        switch (what) {
            case 0:
                return chart.led[i];
            case 1:
                return chart.tailOf(i);
            case 2:
                return chart.ringBits(i);
            case 3:
                return Integer.bitCount(chart.ringBits(i));
            default:
                return BAD;
        }
    }

    public int map() {
        return chart.figures();
    }

    public int rings(int what) {
        switch (what) {
            case 0:
                return chart.ringNumber();
            case 1:
                return chart.pointsOnRings();
            case 2:
                return chart.greatestRing();
            case 3:
                return chart.pointsOnRings() == chart.size ? 1 : 0;
            default:
                return BAD;
        }
    }

    public int ring(int ring, int what) {
        int least = chart.leastOfRing(ring);
        if (least < 0) {
            return BAD;
        }
        int amount = Integer.bitCount(chart.ringBits(least));
        switch (what) {
            case 0:
                return Kinds.ofRing(amount);
            case 1:
                return amount;
            case 2:
                return least;
            default:
                return BAD;
        }
    }

    public int taken(int ring, int k) {
        int least = chart.leastOfRing(ring);
        if (least < 0 || k < 0 || k > Kinds.LAST) {
            return BAD;
        }
        int amount = Integer.bitCount(chart.ringBits(least));
        return Kinds.isUnder(Kinds.ofRing(amount), k) ? amount : OTHER_KIND;
    }

    // ---- pieces

    public int covers(int piece, int what) {
        pieces.learn(chart);
        if (!pieces.holds(piece)) {
            return BAD;
        }
        switch (what) {
            case 0:
                return pieces.covered[piece];
            case 1:
                return pieces.falls(piece) ? 1 : 0;
            case 2:
                return pieces.reachedFrom(piece);
            default:
                return BAD;
        }
    }

    public long paths(int piece, int other, int k) {
        pieces.learn(chart);
        if (!pieces.holds(piece) || !pieces.holds(other) || k < 0 || k > LONGEST_LOOP) {
            return NO;
        }
        return pieces.pathNumber(piece, other, k);
    }

    public long loops(int m, int what) {
        if (m < 1 || m > LONGEST_LOOP || what < 0 || what > 1) {
            return NO;
        }
        pieces.learn(chart);
        pieces.measureLoops(m);
        return what == 0 ? pieces.closed[m] : pieces.simple[m];
    }

    public int forced(int m) {
        if (m < 1 || m > MOST_FORCED) {
            return BAD;
        }
        return forcedBits() >> m & 1;
    }

    public int allForced() {
        return forcedBits();
    }

    private int forcedBits() {
        pieces.learn(chart);
        pieces.measureLoops(MOST_FORCED);
        int bits = chart.ringSizes();
        for (int m = 1; m <= MOST_FORCED; m++) {
            if (pieces.simple[m] != 0) {
                bits |= 1 << m;
            }
        }
        return bits;
    }

    public int ahead(int a, int b) {
        if (a < 1 || a > LAST_IN_ORDER || b < 1 || b > LAST_IN_ORDER) {
            return BAD;
        }
        return OldOrder.isAhead(a, b) ? 1 : 0;
    }

    public int order(int i, int way) {
        if (way == 0 && i >= 0 && i < MOST_FORCED) {
            return OldOrder.numberAt(i, MOST_FORCED);
        }
        if (way == 1 && i >= 1 && i <= MOST_FORCED) {
            return OldOrder.placeOf(i, MOST_FORCED);
        }
        return BAD;
    }

    // ---- patterns

    public int pattern(int m, int k) {
        if (!Patterns.canBeOf(m) || k < -1) {
            return BAD;
        }
        if (chart.way == Chart.CIRCLE) {
            return STATE;
        }
        patterns.seek(m, chart);
        int amount = patterns.amount[m];
        if (k == -1) {
            return amount;
        }
        return k < amount ? patterns.at(m, k) : NONE;
    }

    public int has(int m, int figures) {
        if (!Patterns.canBeOf(m)) {
            return BAD;
        }
        if (chart.way == Chart.CIRCLE) {
            return STATE;
        }
        patterns.seek(m, chart);
        return patterns.isFound(m, figures) ? 1 : 0;
    }

    // ---- growth

    public long growth(int k, int what, int part) {
        if (k < 0 || k > MOST_GROWTH || what < 0 || what > 1 || part < 0 || part > 1) {
            return NO;
        }
        pieces.learn(chart);
        pieces.countTwice(k);
        int piece = pieces.steepest(what == 1);
        return piece < 0 ? NO : pieces.fractionPart(piece, part);
    }

    public long polynomial(int k) {
        pieces.learn(chart);
        if (k < 0 || k > pieces.number) {
            return NO;
        }
        return pieces.coefficient(k);
    }

    // ---- turnings

    public int turn(int n, int figures, int c) {
        if (n < 1 || n > MOST_TURNINGS || !areTurnings(n, figures) || c < 0 || c >= MOST_POINTS) {
            return BAD;
        }
        deeds.keep(chart.packed());
        int done = 0;
        for (int i = n - 1; i >= 0; i--) {
            if (chart.turned(withoutLast(figures, i) % 10, c)) {
                done++;
            }
        }
        return done;
    }

    private static boolean areTurnings(int n, int figures) {
        if (figures < 0 || withoutLast(figures, n) != 0) {
            return false;
        }
        for (int i = 0; i < n; i++) {
            if (withoutLast(figures, i) % 10 > Chart.LAST_TURNING) {
                return false;
            }
        }
        return true;
    }

    /** The number that is left without its last figures, so many of them. */
    private static int withoutLast(int figures, int amount) {
        int rest = figures;
        for (int i = 0; i < amount; i++) {
            rest /= 10;
        }
        return rest;
    }

    // ---- texts, deeds, the image

    public int feed(int letter) {
        if (letter < 0 || letter > Tape.LAST_BYTE) {
            return BAD;
        }
        if (tape.length >= Tape.MOST_BYTES) {
            return FULL;
        }
        tape.put(letter);
        return tape.length;
    }

    public int read() {
        int fault = text.faultIn(tape, chart.size);
        tape.length = 0;
        if (fault >= 0) {
            text.keepReasons(fault);
            return FAULT_BASE - fault;
        }
        deeds.keep(chart.packed());
        chart.leadAll(text.led);
        return text.ringsWhole;
    }

    public long why(int i) {
        if (i < 0 || i >= Text.LAYERS || !text.hasReasons) {
            return NO;
        }
        return text.reasons[i];
    }

    public int back() {
        if (deeds.amount == 0) {
            return STATE;
        }
        chart.unpack(deeds.takeLatest());
        return deeds.amount;
    }

    public int image() {
        kept.become(chart);
        imageKept = true;
        return chart.size;
    }

    public int undo() {
        if (!imageKept) {
            return STATE;
        }
        chart.become(kept);
        deeds.forget();
        return chart.size;
    }

    public int count(int what) {
        switch (what) {
            case 0:
                return chart.size;
            case 1:
                return chart.way;
            case 2:
                return chart.pieceNumber();
            case 3:
                return deeds.amount;
            case 4:
                return tape.length;
            case 5:
                return born;
            default:
                return BAD;
        }
    }

    /** The points, the way they lie, and where each is led. */
    private static final class Chart {
        static final int LINE = 0;
        static final int CIRCLE = 1;
        static final int LAST_TURNING = 4;
        private static final int BITS_OF_A_POINT = 3;

        int size = 3;
        int way = LINE;
        final int[] led = new int[MOST_POINTS];
        private final int[] turnedLed = new int[MOST_POINTS];

        Chart() {
            for (int i = 0; i < MOST_POINTS; i++) {
                led[i] = i;
            }
        }

        void startWith(int n) {
            size = n;
            for (int i = 0; i < MOST_POINTS; i++) {
                led[i] = i;
            }
        }

        void become(Chart other) {
            size = other.size;
            way = other.way;
            leadAll(other.led);
        }

        void leadAll(int[] from) {
            System.arraycopy(from, 0, led, 0, MOST_POINTS);
        }

        boolean holds(int i) {
            return i >= 0 && i < size;
        }

        int pieceNumber() {
            return way == CIRCLE ? size : size - 1;
        }

        int figures() {
            int number = 0;
            for (int i = 0; i < size; i++) {
                number = number * 10 + led[i];
            }
            return number;
        }

        /** Where all points are led, in one number that fits a deed. */
        int packed() {
            int number = 0;
            for (int i = MOST_POINTS - 1; i >= 0; i--) {
                number = number << BITS_OF_A_POINT | led[i];
            }
            return number;
        }

        void unpack(int number) {
            for (int i = 0; i < MOST_POINTS; i++) {
                led[i] = number >> (i * BITS_OF_A_POINT) & (MOST_POINTS - 1);
            }
        }

        int ringBits(int i) {
            // Behind as many steps as there are points every tail has ended.
            int at = i;
            for (int step = 0; step < size; step++) {
                at = led[at];
            }
            int bits = 0;
            for (int step = 0; step < size; step++) {
                bits |= 1 << at;
                at = led[at];
            }
            return bits;
        }

        int tailOf(int i) {
            int bits = ringBits(i);
            int at = i;
            int steps = 0;
            while (steps < size && (bits >> at & 1) == 0) {
                at = led[at];
                steps++;
            }
            return steps;
        }

        boolean isLeastOfRing(int i) {
            int bits = ringBits(i);
            return (bits >> i & 1) == 1 && (bits & ((1 << i) - 1)) == 0;
        }

        /** The least point of the ring with this number, -1 if there is no such ring. */
        int leastOfRing(int ring) {
            int seen = 0;
            for (int i = 0; i < size; i++) {
                if (isLeastOfRing(i)) {
                    if (seen == ring) {
                        return i;
                    }
                    seen++;
                }
            }
            return -1;
        }

        int ringNumber() {
            int seen = 0;
            for (int i = 0; i < size; i++) {
                if (isLeastOfRing(i)) {
                    seen++;
                }
            }
            return seen;
        }

        int pointsOnRings() {
            int bits = 0;
            for (int i = 0; i < size; i++) {
                bits |= ringBits(i);
            }
            return Integer.bitCount(bits);
        }

        int greatestRing() {
            int greatest = 0;
            for (int i = 0; i < size; i++) {
                greatest = Math.max(greatest, Integer.bitCount(ringBits(i)));
            }
            return greatest;
        }

        /** Bit m: there is a ring of m points. */
        int ringSizes() {
            int sizes = 0;
            for (int i = 0; i < size; i++) {
                sizes |= 1 << Integer.bitCount(ringBits(i));
            }
            return sizes;
        }

        /** Whether the turning could be done. */
        boolean turned(int turning, int c) {
            switch (turning) {
                case 0:
                    mirror();
                    break;
                case 1:
                    leadTwice();
                    break;
                case 2:
                    move();
                    break;
                case 3:
                    if (!turnRound()) {
                        return false;
                    }
                    break;
                case 4:
                    leadFurther(c);
                    break;
                default:
                    return false;
            }
            System.arraycopy(turnedLed, 0, led, 0, size);
            return true;
        }

        private void mirror() {
            for (int i = 0; i < size; i++) {
                turnedLed[size - 1 - i] = size - 1 - led[i];
            }
        }

        private void leadTwice() {
            for (int i = 0; i < size; i++) {
                turnedLed[i] = led[led[i]];
            }
        }

        private void move() {
            for (int i = 0; i < size; i++) {
                turnedLed[round(i + 1)] = round(led[i] + 1);
            }
        }

        private boolean turnRound() {
            int reached = 0;
            for (int i = 0; i < size; i++) {
                reached |= 1 << led[i];
                turnedLed[led[i]] = i;
            }
            return Integer.bitCount(reached) == size;
        }

        private void leadFurther(int c) {
            for (int i = 0; i < size; i++) {
                turnedLed[i] = round(led[i] + c);
            }
        }

        private int round(int place) {
            return size > 0 ? place % size : 0;
        }
    }

    /** The kinds of rings, by number, each under another one. */
    private static final class Kinds {
        static final int LAST = 4;
        private static final int EVEN = 1;
        private static final int ODD = 2;
        private static final int STILL = 3;
        private static final int PAIR = 4;
        private static final int[] UPPER = {-1, 0, 0, ODD, EVEN};

        static int ofRing(int amount) {
            if (amount == 1) {
                return STILL;
            }
            if (amount == 2) {
                return PAIR;
            }
            return amount % 2 == 0 ? EVEN : ODD;
        }

        static boolean isUnder(int kind, int upper) {
            int at = kind;
            for (int step = 0; step <= LAST && at >= 0 && at <= LAST; step++) {
                if (at == upper) {
                    return true;
                }
                at = UPPER[at];
            }
            return false;
        }
    }

    /** The old order of numbers: 3, 5, 7, .., twice these, .., 8, 4, 2, 1. */
    private static final class OldOrder {
        static boolean isAhead(int a, int b) {
            int powerA = powerIn(a);
            int powerB = powerIn(b);
            int oddA = a >> powerA;
            int oddB = b >> powerB;
            if (oddA == 1 || oddB == 1) {
                return oddA != 1 || oddB == 1 && powerA > powerB;
            }
            return powerA < powerB || powerA == powerB && oddA < oddB;
        }

        private static int powerIn(int m) {
            int power = 0;
            while (power < 31 && (m >> power & 1) == 0) {
                power++;
            }
            return power;
        }

        /** The place of m among the numbers 1 to last. */
        static int placeOf(int m, int last) {
            int place = 0;
            for (int other = 1; other <= last; other++) {
                if (isAhead(other, m)) {
                    place++;
                }
            }
            return place;
        }

        static int numberAt(int place, int last) {
            for (int m = 1; m <= last; m++) {
                if (placeOf(m, last) == place) {
                    return m;
                }
            }
            return NONE;
        }
    }

    /** What the pieces between the points cover, and what is counted along that. */
    private static final class Pieces {
        int number;
        private int falling;
        final int[] covered = new int[MOST_POINTS];
        private final long[] counts = new long[MOST_POINTS];
        private final long[] earlier = new long[MOST_POINTS];
        final long[] closed = new long[LONGEST_LOOP + 1];
        final long[] simple = new long[LONGEST_LOOP + 1];
        private final long[] coefficients = new long[MOST_POINTS + 1];

        void learn(Chart chart) {
            number = chart.pieceNumber();
            falling = 0;
            for (int i = 0; i < number; i++) {
                int a = chart.led[i];
                int b = chart.led[i + 1 < chart.size ? i + 1 : 0];
                if (chart.way == Chart.CIRCLE) {
                    covered[i] = forward(a, b, chart.size);
                } else {
                    covered[i] = between(Math.min(a, b), Math.max(a, b));
                    falling |= a > b ? 1 << i : 0;
                }
            }
        }

        private static int between(int lesser, int greater) {
            return (1 << greater) - (1 << lesser);
        }

        private static int forward(int a, int b, int size) {
            return a <= b ? between(a, b) : between(a, size) | between(0, b);
        }

        boolean holds(int piece) {
            return piece >= 0 && piece < number;
        }

        boolean falls(int piece) {
            return (falling >> piece & 1) == 1;
        }

        boolean isCovered(int piece, int by) {
            return (covered[by] >> piece & 1) == 1;
        }

        int reachedFrom(int piece) {
            int reached = covered[piece];
            for (int step = 0; step < number; step++) {
                for (int i = 0; i < number; i++) {
                    reached |= (reached >> i & 1) == 1 ? covered[i] : 0;
                }
            }
            return reached;
        }

        /** The count of each piece becomes those of all that it covers, together. */
        private void countOn() {
            System.arraycopy(counts, 0, earlier, 0, MOST_POINTS);
            for (int i = 0; i < number; i++) {
                long sum = 0;
                for (int j = 0; j < number; j++) {
                    sum += isCovered(j, i) ? earlier[j] : 0;
                }
                counts[i] = sum;
            }
        }

        private void startAt(int piece) {
            for (int i = 0; i < MOST_POINTS; i++) {
                counts[i] = i == piece ? 1 : 0;
            }
        }

        long pathNumber(int piece, int other, int k) {
            startAt(other);
            for (int step = 0; step < k; step++) {
                countOn();
            }
            return counts[piece];
        }

        /** Fills closed and simple from 1 up to last. */
        void measureLoops(int last) {
            for (int m = 1; m <= last; m++) {
                closed[m] = 0;
            }
            for (int piece = 0; piece < number; piece++) {
                startAt(piece);
                for (int m = 1; m <= last; m++) {
                    countOn();
                    closed[m] += counts[piece];
                }
            }
            for (int m = 1; m <= last; m++) {
                simple[m] = closed[m] - repeatedLoops(m);
            }
        }

        /** Each loop that is a shorter one several times is so of just one simple loop. */
        private long repeatedLoops(int m) {
            long sum = 0;
            for (int part = 1; part < m; part++) {
                sum += m % part == 0 ? simple[part] : 0;
            }
            return sum;
        }

        /** The counts at k are in earlier then, those at k + 1 in counts. */
        void countTwice(int k) {
            for (int i = 0; i < MOST_POINTS; i++) {
                counts[i] = 1;
            }
            for (int step = 0; step <= k; step++) {
                countOn();
            }
        }

        /** The piece with the least or the greatest fraction, -1 if all counts at k are 0. */
        int steepest(boolean greatest) {
            int best = -1;
            for (int i = 0; i < number; i++) {
                if (earlier[i] > 0 && (best < 0 || isBeyond(i, best, greatest))) {
                    best = i;
                }
            }
            return best;
        }

        private boolean isBeyond(int i, int best, boolean greatest) {
            // At most 7 to the 21st: no product wraps.
            long left = counts[i] * earlier[best];
            long right = counts[best] * earlier[i];
            return greatest ? left > right : left < right;
        }

        long fractionPart(int piece, int part) {
            long number = part == 0 ? counts[piece] : earlier[piece];
            long divisor = commonDivisor(counts[piece], earlier[piece]);
            return divisor > 0 ? number / divisor : number;
        }

        private static long commonDivisor(long first, long second) {
            long a = first;
            long b = second;
            // Two steps at least halve a number: 200 are far more than any long needs.
            for (int step = 0; step < 200 && b != 0; step++) {
                long rest = a % b;
                a = b;
                b = rest;
            }
            return a;
        }

        /** By Newton's identities: the numbers of loops are the sums of powers of the roots. */
        long coefficient(int k) {
            measureLoops(number);
            coefficients[0] = 1;
            for (int j = 1; j <= number; j++) {
                long sum = 0;
                for (int i = 1; i <= j; i++) {
                    sum += coefficients[j - i] * closed[i];
                }
                coefficients[j] = -sum / j;
            }
            return coefficients[number - k];
        }
    }

    /** The patterns of simple loops and of rings, sought once for each map and each m. */
    private static final class Patterns {
        private static final int SHORTEST = 2;
        private static final int LONGEST = 6;
        private static final int NOT_SOUGHT = -1;
        // There are (m - 1)! ways to lead m numbers round in one ring.
        private static final int[] MOST = {0, 0, 1, 2, 6, 24, 120};
        private static final int[] START = {0, 0, 0, 1, 3, 9, 33};
        private static final int ALL = 153;

        private int soughtSize;
        private int soughtMap;
        private final Pieces pieces = new Pieces();
        final int[] amount = new int[LONGEST + 1];
        private final int[] found = new int[ALL];
        // The loop stands twice, one behind the other: each row of it can be read on.
        private final int[] loop = new int[2 * LONGEST];
        private final int[] lessRows = new int[LONGEST];
        private final int[] leads = new int[LONGEST];

        static boolean canBeOf(int m) {
            return m >= SHORTEST && m <= LONGEST;
        }

        int at(int m, int k) {
            return found[START[m] + k];
        }

        boolean isFound(int m, int figures) {
            int k = placeFor(m, figures);
            return k < amount[m] && at(m, k) == figures;
        }

        /** How many found ones of m are less than these figures. */
        private int placeFor(int m, int figures) {
            int low = 0;
            int high = amount[m];
            // Each step at least halves what is between: 32 are enough for any number of these.
            for (int step = 0; step < 32 && low < high; step++) {
                int middle = (low + high) / 2;
                if (at(m, middle) < figures) {
                    low = middle + 1;
                } else {
                    high = middle;
                }
            }
            return low;
        }

        /** Asked only of a chart on a line. */
        void seek(int m, Chart chart) {
            if (soughtSize != chart.size || soughtMap != chart.packed()) {
                startWith(chart);
            }
            if (amount[m] != NOT_SOUGHT) {
                return;
            }
            amount[m] = 0;
            addRings(m, chart);
            for (int piece = 0; piece < pieces.number; piece++) {
                loop[0] = piece;
                extend(this, m, 1);
            }
        }

        private void startWith(Chart chart) {
            soughtSize = chart.size;
            soughtMap = chart.packed();
            pieces.learn(chart);
            for (int m = 0; m <= LONGEST; m++) {
                amount[m] = NOT_SOUGHT;
            }
        }

        private void addRings(int m, Chart chart) {
            for (int i = 0; i < chart.size; i++) {
                int bits = chart.ringBits(i);
                if (chart.isLeastOfRing(i) && Integer.bitCount(bits) == m) {
                    add(m, ringFigures(bits, chart));
                }
            }
        }

        private static int ringFigures(int bits, Chart chart) {
            int figures = 0;
            for (int i = 0; i < chart.size; i++) {
                if ((bits >> i & 1) == 1) {
                    int lesser = bits & ((1 << chart.led[i]) - 1);
                    figures = figures * 10 + Integer.bitCount(lesser);
                }
            }
            return figures;
        }

        /** Goes through all loops of m that begin with the pieces laid so far. */
        private static void extend(Patterns sought, int m, int length) {
            if (length < 1 || length > m || sought.amount[m] >= MOST[m]) {
                return;
            }
            if (length == m) {
                sought.takeLoop(m);
                return;
            }
            int[] loop = sought.loop;
            // Another beginning has the same pattern: the least piece first is enough.
            for (int piece = loop[0]; piece < sought.pieces.number; piece++) {
                if (sought.pieces.isCovered(piece, loop[length - 1])) {
                    loop[length] = piece;
                    extend(sought, m, length + 1);
                }
            }
        }

        private void takeLoop(int m) {
            if (!pieces.isCovered(loop[0], loop[m - 1])) {
                return;
            }
            System.arraycopy(loop, 0, loop, m, m);
            if (numberRows(m)) {
                add(m, loopFigures(m));
            }
        }

        /** Each row gets as its number how many are less; false if two are alike: the loop isn't simple then. */
        private boolean numberRows(int m) {
            for (int row = 0; row < m; row++) {
                lessRows[row] = 0;
            }
            for (int row = 0; row < m; row++) {
                for (int other = row + 1; other < m; other++) {
                    int place = firstOther(m, row, other);
                    if (place == m) {
                        return false;
                    }
                    lessRows[isLess(row, other, place) ? other : row]++;
                }
            }
            return true;
        }

        /** The first place at which two rows are otherwise, m if there is none. */
        private int firstOther(int m, int row, int other) {
            int place = 0;
            while (place < m && loop[row + place] == loop[other + place]) {
                place++;
            }
            return place;
        }

        private boolean isLess(int row, int other, int place) {
            boolean even = true;
            for (int i = 0; i < place; i++) {
                if (pieces.falls(loop[row + i])) {
                    even = !even;
                }
            }
            return even == loop[row + place] < loop[other + place];
        }

        private int loopFigures(int m) {
            for (int row = 0; row < m; row++) {
                leads[lessRows[row]] = lessRows[row + 1 < m ? row + 1 : 0];
            }
            int figures = 0;
            for (int i = 0; i < m; i++) {
                figures = figures * 10 + leads[i];
            }
            return figures;
        }

        /** Keeps the patterns of m rising, each once. */
        private void add(int m, int figures) {
            int k = placeFor(m, figures);
            if (amount[m] >= MOST[m] || k < amount[m] && at(m, k) == figures) {
                return;
            }
            for (int i = START[m] + amount[m]; i > START[m] + k; i--) {
                found[i] = found[i - 1];
            }
            found[START[m] + k] = figures;
            amount[m]++;
        }
    }

    /** Where the points were led ahead of the latest deeds. */
    private static final class Deeds {
        private static final int MOST = 10;

        int amount;
        private final int[] maps = new int[MOST];

        void forget() {
            amount = 0;
        }

        void keep(int map) {
            if (amount == MOST) {
                forgetOldest();
            }
            maps[amount] = map;
            amount++;
        }

        private void forgetOldest() {
            for (int i = 1; i < MOST; i++) {
                maps[i - 1] = maps[i];
            }
            amount--;
        }

        /** Asked only when there is a deed. */
        int takeLatest() {
            if (amount > 0) {
                amount--;
            }
            return maps[amount];
        }
    }

    /** The bytes that were fed and not yet read. */
    private static final class Tape {
        static final int MOST_BYTES = 60;
        static final int LAST_BYTE = 127;

        int length;
        final byte[] bytes = new byte[MOST_BYTES];

        void put(int letter) {
            if (length < MOST_BYTES) {
                bytes[length] = (byte) letter;
                length++;
            }
        }
    }

    /** Goes through a tape as a text of rings, and keeps the reasons of the latest fault. */
    private static final class Text {
        static final int LAYERS = 3;
        private static final int AT_BEGIN = 0;
        private static final int AT_POINT = 1;
        private static final int BEHIND_POINT = 2;
        private static final int BEHIND_RING = 3;

        private int stage;
        private int size;
        private int told;
        private int first;
        private int latest;
        int ringsWhole;
        final int[] led = new int[MOST_POINTS];
        boolean hasReasons;
        final long[] reasons = new long[LAYERS];

        /** The place of the fault, -1 if there is none. */
        int faultIn(Tape tape, int points) {
            begin(points);
            for (int i = 0; i < tape.length; i++) {
                if (!canTake(tape.bytes[i])) {
                    return i;
                }
            }
            return stage == BEHIND_RING ? -1 : tape.length;
        }

        void keepReasons(int fault) {
            hasReasons = true;
            reasons[0] = ringsWhole;
            reasons[1] = Integer.bitCount(told);
            reasons[2] = fault;
        }

        private void begin(int points) {
            stage = AT_BEGIN;
            size = points;
            told = 0;
            ringsWhole = 0;
            for (int i = 0; i < MOST_POINTS; i++) {
                led[i] = i;
            }
        }

        /** Takes the byte, if it can stand here. */
        private boolean canTake(int letter) {
            switch (stage) {
                case AT_POINT:
                    return tellPoint(letter - '0');
                case BEHIND_POINT:
                    return goOnBehindPoint(letter);
                default:
                    return openRing(letter);
            }
        }

        private boolean openRing(int letter) {
            if (letter != '(') {
                return false;
            }
            first = -1;
            stage = AT_POINT;
            return true;
        }

        private boolean tellPoint(int point) {
            if (point < 0 || point >= size || (told >> point & 1) == 1) {
                return false;
            }
            if (first < 0) {
                first = point;
            } else {
                led[latest] = point;
            }
            told |= 1 << point;
            latest = point;
            stage = BEHIND_POINT;
            return true;
        }

        private boolean goOnBehindPoint(int letter) {
            if (letter == ' ') {
                stage = AT_POINT;
                return true;
            }
            if (letter != ')') {
                return false;
            }
            led[latest] = first;
            ringsWhole++;
            stage = BEHIND_RING;
            return true;
        }
    }
}
