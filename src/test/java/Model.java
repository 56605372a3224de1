import java.math.BigInteger;
import java.util.ArrayDeque;
import java.util.ArrayList;
import java.util.Arrays;
import java.util.BitSet;
import java.util.Deque;
import java.util.HashSet;
import java.util.List;
import java.util.Set;
import java.util.TreeSet;
import java.util.regex.Matcher;
import java.util.regex.Pattern;

/** The document once more, slowly and by other ways: every loop and path is gone through one by one. */
final class Model {
    private static final long NO = Long.MIN_VALUE;

    private int[] led = {0, 1, 2};
    private int way;
    private String tape = "";
    private long[] reasons;
    private int[] imageLed;
    private int imageWay;
    private final Deque<int[]> deeds = new ArrayDeque<>();

    int points(int n) {
        if (n < 2 || n > 8) {
            return -2;
        }
        int was = led.length;
        led = new int[n];
        for (int i = 0; i < n; i++) {
            led[i] = i;
        }
        deeds.clear();
        return was;
    }

    int way(int w) {
        if (w < 0 || w > 1) {
            return -2;
        }
        int was = way;
        way = w;
        deeds.clear();
        return was;
    }

    private boolean point(int i) {
        return i >= 0 && i < led.length;
    }

    private void deed() {
        deeds.push(led.clone());
        if (deeds.size() > 10) {
            deeds.removeLast();
        }
    }

    int lead(int i, int j) {
        if (!point(i) || !point(j)) {
            return -2;
        }
        deed();
        int was = led[i];
        led[i] = j;
        return was;
    }

    private TreeSet<Integer> ringOf(int i) {
        TreeSet<Integer> ring = new TreeSet<>();
        int at = i;
        for (int k = 0; k < 100; k++) {
            at = led[at];
        }
        while (ring.add(at)) {
            at = led[at];
        }
        return ring;
    }

    private List<TreeSet<Integer>> allRings() {
        List<TreeSet<Integer>> rings = new ArrayList<>();
        for (int i = 0; i < led.length; i++) {
            if (ringOf(i).first() == i) {
                rings.add(ringOf(i));
            }
        }
        return rings;
    }

    private static int bits(Iterable<Integer> members) {
        int bits = 0;
        for (int i : members) {
            bits += 1 << i;
        }
        return bits;
    }

    int of(int i, int what) {
        if (!point(i) || what < 0 || what > 3) {
            return -2;
        }
        if (what == 0) {
            return led[i];
        }
        if (what == 1) {
            int tail = 0;
            for (int at = i; !ringOf(at).contains(at); at = led[at]) {
                tail++;
            }
            return tail;
        }
        return what == 2 ? bits(ringOf(i)) : ringOf(i).size();
    }

    int map() {
        StringBuilder figures = new StringBuilder();
        for (int j : led) {
            figures.append(j);
        }
        return Integer.parseInt(figures.toString());
    }

    int rings(int what) {
        int on = 0;
        int most = 0;
        for (TreeSet<Integer> ring : allRings()) {
            on += ring.size();
            most = Math.max(most, ring.size());
        }
        switch (what) {
            case 0: return allRings().size();
            case 1: return on;
            case 2: return most;
            case 3: return on == led.length ? 1 : 0;
            default: return -2;
        }
    }

    private static String kindsOf(int size) {
        return size == 1 ? "320" : size == 2 ? "410" : size % 2 == 1 ? "20" : "10";
    }

    int ring(int ring, int what) {
        if (ring < 0 || ring >= allRings().size() || what < 0 || what > 2) {
            return -2;
        }
        TreeSet<Integer> members = allRings().get(ring);
        return what == 0 ? kindsOf(members.size()).charAt(0) - '0' : what == 1 ? members.size() : members.first();
    }

    int taken(int ring, int k) {
        if (ring < 0 || ring >= allRings().size() || k < 0 || k > 4) {
            return -2;
        }
        int size = allRings().get(ring).size();
        return kindsOf(size).contains("" + k) ? size : -13;
    }

    private int pieceNumber() {
        return led.length - 1 + way;
    }

    private boolean piece(int i) {
        return i >= 0 && i < pieceNumber();
    }

    private Set<Integer> covered(int piece) {
        Set<Integer> covered = new TreeSet<>();
        int a = led[piece];
        int b = led[(piece + 1) % led.length];
        if (way == 1) {
            for (int at = a; at != b; at = (at + 1) % led.length) {
                covered.add(at);
            }
        } else {
            for (int at = 0; at < led.length - 1; at++) {
                if (at >= Math.min(a, b) && at + 1 <= Math.max(a, b)) {
                    covered.add(at);
                }
            }
        }
        return covered;
    }

    private boolean falls(int piece) {
        return way == 0 && led[piece] > led[piece + 1];
    }

    int covers(int piece, int what) {
        if (!piece(piece) || what < 0 || what > 2) {
            return -2;
        }
        if (what == 0) {
            return bits(covered(piece));
        }
        if (what == 1) {
            return falls(piece) ? 1 : 0;
        }
        BitSet reached = new BitSet();
        Deque<Integer> open = new ArrayDeque<>(covered(piece));
        while (!open.isEmpty()) {
            int at = open.pop();
            if (!reached.get(at)) {
                reached.set(at);
                open.addAll(covered(at));
            }
        }
        int bits = 0;
        for (int i = 0; i < 8; i++) {
            bits += reached.get(i) ? 1 << i : 0;
        }
        return bits;
    }

    private BigInteger[][] table() {
        int n = pieceNumber();
        BigInteger[][] table = new BigInteger[n][n];
        for (int i = 0; i < n; i++) {
            for (int j = 0; j < n; j++) {
                table[i][j] = covered(i).contains(j) ? BigInteger.ONE : BigInteger.ZERO;
            }
        }
        return table;
    }

    private static BigInteger[][] times(BigInteger[][] a, BigInteger[][] b) {
        int n = a.length;
        BigInteger[][] product = new BigInteger[n][n];
        for (int i = 0; i < n; i++) {
            for (int j = 0; j < n; j++) {
                product[i][j] = BigInteger.ZERO;
                for (int k = 0; k < n; k++) {
                    product[i][j] = product[i][j].add(a[i][k].multiply(b[k][j]));
                }
            }
        }
        return product;
    }

    private BigInteger[][] power(int k) {
        int n = pieceNumber();
        BigInteger[][] power = new BigInteger[n][n];
        for (int i = 0; i < n; i++) {
            for (int j = 0; j < n; j++) {
                power[i][j] = i == j ? BigInteger.ONE : BigInteger.ZERO;
            }
        }
        BigInteger[][] table = table();
        for (int i = 0; i < k; i++) {
            power = times(power, table);
        }
        return power;
    }

    long paths(int piece, int other, int k) {
        if (!piece(piece) || !piece(other) || k < 0 || k > 30) {
            return NO;
        }
        return power(k)[piece][other].longValue();
    }

    private BigInteger loopNumber(int m) {
        BigInteger sum = BigInteger.ZERO;
        BigInteger[][] power = power(m);
        for (int i = 0; i < power.length; i++) {
            sum = sum.add(power[i][i]);
        }
        return sum;
    }

    private static int moebius(int m) {
        int sign = 1;
        int rest = m;
        for (int p = 2; p <= m; p++) {
            if (rest % p == 0) {
                rest /= p;
                sign = -sign;
                if (rest % p == 0) {
                    return 0;
                }
            }
        }
        return sign;
    }

    private BigInteger simpleNumber(int m) {
        BigInteger sum = BigInteger.ZERO;
        for (int d = 1; d <= m; d++) {
            if (m % d == 0) {
                sum = sum.add(loopNumber(d).multiply(BigInteger.valueOf(moebius(m / d))));
            }
        }
        return sum;
    }

    long loops(int m, int what) {
        if (m < 1 || m > 30 || what < 0 || what > 1) {
            return NO;
        }
        return (what == 0 ? loopNumber(m) : simpleNumber(m)).longValue();
    }

    int forced(int m) {
        if (m < 1 || m > 12) {
            return -2;
        }
        for (TreeSet<Integer> ring : allRings()) {
            if (ring.size() == m) {
                return 1;
            }
        }
        return simpleNumber(m).signum();
    }

    int allForced() {
        int bits = 0;
        for (int m = 1; m <= 12; m++) {
            bits += forced(m) << m;
        }
        return bits;
    }

    private static List<Integer> inOldOrder(int last) {
        List<Integer> order = new ArrayList<>();
        for (int twice = 1; twice <= last; twice *= 2) {
            for (int odd = 3; odd * twice <= last; odd += 2) {
                order.add(odd * twice);
            }
        }
        for (int twice = 128; twice >= 1; twice /= 2) {
            if (twice <= last) {
                order.add(twice);
            }
        }
        return order;
    }

    int ahead(int a, int b) {
        List<Integer> order = inOldOrder(99);
        if (!order.contains(a) || !order.contains(b)) {
            return -2;
        }
        return order.indexOf(a) < order.indexOf(b) ? 1 : 0;
    }

    int order(int i, int way) {
        List<Integer> order = inOldOrder(12);
        if (way == 0 && i >= 0 && i < 12) {
            return order.get(i);
        }
        return way == 1 && order.contains(i) ? order.indexOf(i) : -2;
    }

    private TreeSet<Integer> patternsOf(int m) {
        TreeSet<Integer> patterns = new TreeSet<>();
        for (TreeSet<Integer> ring : allRings()) {
            if (ring.size() == m) {
                List<Integer> members = new ArrayList<>(ring);
                StringBuilder figures = new StringBuilder();
                for (int i : members) {
                    figures.append(members.indexOf(led[i]));
                }
                patterns.add(Integer.parseInt(figures.toString()));
            }
        }
        for (int i = 0; i < pieceNumber(); i++) {
            goThrough(new ArrayList<>(List.of(i)), m, patterns);
        }
        return patterns;
    }

    private void goThrough(List<Integer> loop, int m, Set<Integer> patterns) {
        int last = loop.get(loop.size() - 1);
        if (loop.size() == m) {
            if (covered(last).contains(loop.get(0))) {
                takeLoop(loop, m, patterns);
            }
            return;
        }
        for (int next : covered(last)) {
            loop.add(next);
            goThrough(loop, m, patterns);
            loop.remove(loop.size() - 1);
        }
    }

    private void takeLoop(List<Integer> loop, int m, Set<Integer> patterns) {
        List<List<Integer>> rows = new ArrayList<>();
        for (int i = 0; i < m; i++) {
            List<Integer> row = new ArrayList<>(loop.subList(i, m));
            row.addAll(loop.subList(0, i));
            rows.add(row);
        }
        if (new HashSet<>(rows).size() < m) {
            return;
        }
        List<List<Integer>> sorted = new ArrayList<>(rows);
        sorted.sort(this::compareRows);
        StringBuilder figures = new StringBuilder();
        for (List<Integer> row : sorted) {
            figures.append(sorted.indexOf(rows.get((rows.indexOf(row) + 1) % m)));
        }
        patterns.add(Integer.parseInt(figures.toString()));
    }

    private int compareRows(List<Integer> a, List<Integer> b) {
        int sign = 1;
        for (int i = 0; i < a.size(); i++) {
            if (!a.get(i).equals(b.get(i))) {
                return sign * Integer.compare(a.get(i), b.get(i));
            }
            if (falls(a.get(i))) {
                sign = -sign;
            }
        }
        return 0;
    }

    int pattern(int m, int k) {
        if (m < 2 || m > 6 || k < -1) {
            return -2;
        }
        if (way == 1) {
            return -3;
        }
        List<Integer> patterns = new ArrayList<>(patternsOf(m));
        return k == -1 ? patterns.size() : k < patterns.size() ? patterns.get(k) : -1;
    }

    int has(int m, int figures) {
        if (m < 2 || m > 6) {
            return -2;
        }
        return way == 1 ? -3 : patternsOf(m).contains(figures) ? 1 : 0;
    }

    private BigInteger countAt(int piece, int k) {
        BigInteger sum = BigInteger.ZERO;
        for (BigInteger paths : power(k)[piece]) {
            sum = sum.add(paths);
        }
        return sum;
    }

    long growth(int k, int what, int part) {
        if (k < 0 || k > 10 || what < 0 || what > 1 || part < 0 || part > 1) {
            return NO;
        }
        BigInteger above = null;
        BigInteger below = null;
        for (int i = 0; i < pieceNumber(); i++) {
            BigInteger now = countAt(i, k);
            BigInteger then = countAt(i, k + 1);
            if (now.signum() > 0) {
                int side = above == null ? 0 : then.multiply(below).compareTo(above.multiply(now));
                if (above == null || side * (what == 0 ? -1 : 1) > 0) {
                    BigInteger common = then.gcd(now);
                    above = then.divide(common);
                    below = now.divide(common);
                }
            }
        }
        return above == null ? NO : (part == 0 ? above : below).longValue();
    }

    long polynomial(int k) {
        int n = pieceNumber();
        if (k < 0 || k > n) {
            return NO;
        }
        return expand(0, 0)[k];
    }

    /** The determinant of the rows from this one on, over the columns that aren't used, as a polynomial. */
    private long[] expand(int row, int used) {
        int n = pieceNumber();
        long[] sum = new long[n + 1];
        if (row == n) {
            sum[0] = 1;
            return sum;
        }
        int sign = 1;
        for (int column = 0; column < n; column++) {
            if ((used >> column & 1) == 0) {
                long constant = covered(row).contains(column) ? -1 : 0;
                if (constant != 0 || row == column) {
                    long[] rest = expand(row + 1, used | 1 << column);
                    for (int i = 0; i <= n; i++) {
                        sum[i] += sign * constant * rest[i];
                        sum[i] += row == column && i > 0 ? sign * rest[i - 1] : 0;
                    }
                }
                sign = -sign;
            }
        }
        return sum;
    }

    int turn(int n, int figures, int c) {
        if (n < 1 || n > 6 || figures < 0 || c < 0 || c > 7) {
            return -2;
        }
        StringBuilder turnings = new StringBuilder().append(figures);
        while (turnings.length() < n) {
            turnings.insert(0, '0');
        }
        if (!turnings.toString().matches("[0-4]{" + n + "}")) {
            return -2;
        }
        deed();
        int done = 0;
        for (int i = 0; i < n; i++) {
            int[] next = turned(turnings.charAt(i), c);
            if (next != null) {
                led = next;
                done++;
            }
        }
        return done;
    }

    private int[] turned(char turning, int c) {
        int n = led.length;
        int[] next = new int[n];
        Arrays.fill(next, -1);
        for (int i = 0; i < n; i++) {
            switch (turning) {
                case '0': next[i] = n - 1 - led[n - 1 - i]; break;
                case '1': next[i] = led[led[i]]; break;
                case '2': next[i] = (led[(i + n - 1) % n] + 1) % n; break;
                case '3': next[led[i]] = i; break;
                default: next[i] = (led[i] + c) % n; break;
            }
        }
        for (int j : next) {
            if (j < 0) {
                return null;
            }
        }
        return next;
    }

    int feed(int letter) {
        if (letter < 0 || letter > 127) {
            return -2;
        }
        if (tape.length() == 60) {
            return -4;
        }
        tape += (char) letter;
        return tape.length();
    }

    private static final Pattern BEGUN = Pattern.compile("(\\([0-9]( [0-9])*\\))*(\\(([0-9]( [0-9])*( )?)?)?");
    private static final Pattern WHOLE = Pattern.compile("(\\([0-9]( [0-9])*\\))+");

    private boolean canBegin(String begun) {
        if (!BEGUN.matcher(begun).matches()) {
            return false;
        }
        String figures = begun.replaceAll("[^0-9]", "");
        for (int i = 0; i < figures.length(); i++) {
            int figure = figures.charAt(i) - '0';
            if (figure >= led.length || figures.indexOf(figures.charAt(i)) < i) {
                return false;
            }
        }
        return true;
    }

    int read() {
        String text = tape;
        tape = "";
        int good = text.length();
        while (!canBegin(text.substring(0, good))) {
            good--;
        }
        if (good < text.length() || !WHOLE.matcher(text).matches()) {
            String begun = text.substring(0, good);
            long rings = begun.chars().filter(sign -> sign == ')').count();
            long told = begun.chars().filter(sign -> sign >= '0' && sign <= '9').count();
            reasons = new long[] {rings, told, good};
            return -100 - good;
        }
        deed();
        led = new int[led.length];
        for (int i = 0; i < led.length; i++) {
            led[i] = i;
        }
        Matcher matcher = Pattern.compile("\\(([^)]*)\\)").matcher(text);
        int rings = 0;
        while (matcher.find()) {
            rings++;
            String[] members = matcher.group(1).split(" ");
            for (int i = 0; i < members.length; i++) {
                led[Integer.parseInt(members[i])] = Integer.parseInt(members[(i + 1) % members.length]);
            }
        }
        return rings;
    }

    long why(int i) {
        return reasons == null || i < 0 || i > 2 ? NO : reasons[i];
    }

    int back() {
        if (deeds.isEmpty()) {
            return -3;
        }
        led = deeds.pop();
        return deeds.size();
    }

    int image() {
        imageLed = led.clone();
        imageWay = way;
        return led.length;
    }

    int undo() {
        if (imageLed == null) {
            return -3;
        }
        led = imageLed.clone();
        way = imageWay;
        deeds.clear();
        return led.length;
    }

    int count(int what) {
        int[] counts = {led.length, way, pieceNumber(), deeds.size(), tape.length(), 1123};
        return what < 0 || what > 5 ? -2 : counts[what];
    }
}
