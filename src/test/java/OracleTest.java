import java.math.BigInteger;
import java.util.ArrayDeque;
import java.util.ArrayList;
import java.util.Arrays;
import java.util.Collections;
import java.util.HashSet;
import java.util.List;
import java.util.Set;
import java.util.TreeSet;

/**
 * Runs of drawn calls, each answer against a second reading of the document: slow, by its words alone, with lists,
 * sets and the machine's own arrays and their exceptions.
 */
public final class OracleTest {
    private static final int RUNS = 600, CALLS = 512;
    private static final int BAD = -1000001, NOT = -1000002, FULL = -1000003, NONE = -1000004;
    private static final int NULL = -1000011, CAST = -1000012, INDEX = -1000013, SIZE = -1000014;

    private static int passed = 0;
    private static int failed = 0;
    private static final int[] asked = new int[32];
    private static final int[] refused = new int[32];

    public static void main(String[] args) {
        for (int run = 0; run < RUNS && failed == 0; run++) {
            new Run(run).go();
        }
        for (int call = 2; call < 33; call++) {
            boolean bare = asked[call - 1] == refused[call - 1];
            if (bare && failed == 0) {
                failed++;
                System.out.println("promise " + call + " was never asked but to be refused");
            }
        }
        System.out.println(passed + " passed, " + failed + " failed");
        if (failed != 0) {
            System.exit(1);
        }
    }

    /** A drawn number's source that is the same on every machine. */
    private static final class Dice {
        private long state;

        Dice(long seed) {
            state = seed * 0x9E3779B97F4A7C15L + 1;
        }

        int below(int n) {
            state = state * 6364136223846793005L + 1442695040888963407L;
            return (int) ((state >>> 33) % n);
        }

        int from(int least, int greatest) {
            return least + below(greatest - least + 1);
        }

        /** Mostly as told, at times just beside or far off. */
        int near(int least, int greatest) {
            int by = below(60);
            if (by == 0) {
                return least - 1;
            }
            if (by == 1) {
                return greatest + 1;
            }
            if (by == 2) {
                int[] far = {Integer.MIN_VALUE, Integer.MAX_VALUE, -1, 1000, -1000, 0};
                return far[below(far.length)];
            }
            return from(least, greatest);
        }
    }

    private static final class Run {
        private final Dice dice;
        private final int number;
        private final DarkShadows x = new DarkShadows();
        private final Plain p = new Plain();
        private final List<String> calls = new ArrayList<>();
        private int left = CALLS;

        Run(int number) {
            this.number = number;
            this.dice = new Dice(number);
        }

        void go() {
            while (left > 0 && failed == 0) {
                one();
            }
        }

        private void due(int promise, String call, long got, long want) {
            calls.add(call + " -> " + got);
            left--;
            asked[promise - 1]++;
            if (want <= BAD) {
                refused[promise - 1]++;
            }
            if (got == want) {
                passed++;
                return;
            }
            failed++;
            System.out.println("run " + number + ": promise " + promise + ": due is " + want);
            for (String one : calls) {
                System.out.println("  " + one);
            }
        }

        private int constraint() {
            int size = p.constraints.size();
            return size == 0 ? dice.near(-1, 1) : dice.near(0, size - 1);
        }

        private int someFactor() {
            return dice.below(3) == 0 ? 0 : dice.below(4) == 0 ? dice.from(-9, 9) : dice.from(-3, 3);
        }

        private int someFactors() {
            if (dice.below(12) == 0) {
                return dice.near(0, 159999);
            }
            int packed = 0;
            for (int v = 0; v < 4; v++) {
                packed = packed * 20 + someFactor() + 9;
            }
            return packed;
        }

        private int someRest() {
            return dice.below(3) == 0 ? dice.near(-99, 99) : dice.from(-9, 9);
        }

        private int somePoint() {
            if (dice.below(15) == 0) {
                return dice.near(0, 4095);
            }
            int point = 0;
            for (int v = 0; v < 4; v++) {
                point = point * 8 + dice.from(0, p.most);
            }
            return point;
        }

        private void one() {
            int by = dice.below(100);
            if (by < 30) {
                act();
            } else if (by < 34) {
                tellSystem();
            } else if (by < 40) {
                lookAtOne();
            } else if (by < 75) {
                lookFor();
            } else {
                useSheets();
            }
        }

        /** In every other run there are few constraints, that there be points more often. */
        private void act() {
            int k = constraint();
            boolean many = number % 2 == 1 && p.constraints.size() > 2;
            switch (many ? 3 : dice.below(13)) {
                case 0: case 1: case 2: {
                    int kind = dice.near(0, 4), factors = someFactors(), rest = someRest();
                    due(2, "add(" + kind + ", " + factors + ", " + rest + ")", x.add(kind, factors, rest), p.add(kind, factors, rest));
                    break;
                }
                case 3: due(9, "drop(" + k + ")", x.drop(k), p.drop(k)); break;
                case 4: case 5: {
                    int what = dice.near(0, 4), v = what == 4 ? someRest() : dice.below(20) == 0 ? dice.near(-9, 9) : someFactor();
                    due(10, "change(" + k + ", " + what + ", " + v + ")", x.change(k, what, v), p.change(k, what, v));
                    break;
                }
                case 6: {
                    int kind = dice.near(0, 4);
                    due(11, "shape(" + k + ", " + kind + ")", x.shape(k, kind), p.shape(k, kind));
                    break;
                }
                case 7: due(12, "turn(" + k + ")", x.turn(k), p.turn(k)); break;
                case 8: {
                    int most = dice.near(1, 7);
                    due(13, "call(" + most + ")", x.call(most), p.call(most));
                    break;
                }
                case 9: {
                    int n = dice.below(8) == 0 ? dice.near(1, 40) : dice.from(1, 4);
                    due(14, "drift(" + n + ")", x.drift(n), p.drift(n));
                    break;
                }
                case 10: case 11: due(15, "undo()", x.undo(), p.undo()); break;
                default: {
                    int v = dice.below(5) == 0 ? dice.near(0, Integer.MAX_VALUE - 1) : dice.below(Integer.MAX_VALUE);
                    due(16, "seed(" + v + ")", x.seed(v), p.seed(v));
                }
            }
        }

        private void tellSystem() {
            String text = dice.below(8) == 0 ? drawnLetters() : drawnSystem();
            if (dice.below(2) == 0) {
                text = spoilt(text);
            }
            if (text.length() > left - 1 && text.length() < 131) {
                text = "3";
            }
            for (int i = 0; i < text.length() && left > 1; i++) {
                type(text.charAt(i));
            }
            if (dice.below(10) == 0 && left > 1) {
                type(dice.near(32, 126));
            }
            due(7, "system()", x.system(), p.system());
        }

        private void type(int letter) {
            due(6, "type(" + letter + ")", x.type(letter), p.type(letter));
        }

        private String drawnLetters() {
            String letters = " 012349abcd+-;><=#%e";
            StringBuilder text = new StringBuilder("4;");
            int n = dice.below(100) == 0 ? 131 : dice.below(12);
            for (int i = 0; i < n; i++) {
                text.append(letters.charAt(dice.below(letters.length())));
            }
            return text.toString();
        }

        private String drawnSystem() {
            StringBuilder text = new StringBuilder().append(dice.from(1, 7));
            int many = dice.below(6) == 0 ? dice.near(0, 8) : dice.below(4);
            for (int k = 0; k < Math.min(many, 10); k++) {
                text.append(';');
                List<Integer> parts = new ArrayList<>(List.of(0, 1, 2, 3, 4));
                int terms = dice.from(1, 5);
                for (int t = 0; t < terms; t++) {
                    int part = parts.remove(dice.below(parts.size()));
                    text.append(t == 0 && dice.below(2) == 0 ? "" : dice.below(2) == 0 ? "+" : "-");
                    if (part == 4) {
                        text.append(dice.below(3) == 0 ? dice.below(100) : dice.below(10));
                    } else {
                        text.append(dice.below(2) == 0 ? "" : dice.below(12) == 0 ? "" + dice.below(13) : "" + dice.below(10));
                        text.append((char) ('a' + part));
                    }
                }
                text.append("><=#%".charAt(dice.below(5)));
            }
            return text.toString();
        }

        private String spoilt(String text) {
            StringBuilder other = new StringBuilder(text);
            String letters = "   0123459abcd+-;><=#%e";
            int many = dice.from(1, 2);
            for (int i = 0; i < many; i++) {
                int at = dice.below(other.length() + 1);
                int by = dice.below(3);
                if (by == 0 || at == other.length()) {
                    other.insert(at, letters.charAt(dice.below(letters.length())));
                } else if (by == 1) {
                    other.deleteCharAt(at);
                } else {
                    other.setCharAt(at, letters.charAt(dice.below(letters.length())));
                }
            }
            return other.toString();
        }

        private void lookAtOne() {
            int k = constraint(), point = dice.below(4) == 0 ? dice.near(0, 4095) : somePoint(), what = dice.near(0, 5);
            switch (dice.below(4)) {
                case 0: due(3, "of(" + k + ", " + what + ")", x.of(k, what), p.of(k, what)); break;
                case 1: due(4, "sum(" + k + ", " + point + ")", x.sum(k, point), p.sum(k, point)); break;
                case 2: due(5, "hold(" + point + ")", x.hold(point), p.hold(point)); break;
                default: due(8, "count(" + what + ")", x.count(what), p.count(what));
            }
        }

        private void lookFor() {
            int v = dice.near(0, 3), w = dice.near(0, 3), what = dice.near(0, 2), k = constraint();
            switch (dice.below(11)) {
                case 0: due(17, "range(" + v + ", " + what + ")", x.range(v, what), p.range(v, what)); break;
                case 1: due(18, "apart(" + v + ", " + w + ", " + what + ")", x.apart(v, w, what), p.apart(v, w, what)); break;
                case 2: case 3: case 4: {
                    int shadow = dice.near(0, 1), row = dice.near(-1, 12), i = dice.near(0, 4);
                    due(19, "row(" + v + ", " + shadow + ", " + row + ", " + i + ")", x.row(v, shadow, row, i), p.row(v, shadow, row, i));
                    break;
                }
                case 5: {
                    int kind = dice.near(0, 4);
                    due(20, "deep(" + v + ", " + kind + ")", x.deep(v, kind), p.deep(v, kind));
                    break;
                }
                case 6: {
                    int which = dice.near(0, 1);
                    due(21, "spare(" + which + ")", x.spare(which), p.spare(which));
                    break;
                }
                case 7: due(22, "stretch(" + k + ")", x.stretch(k), p.stretch(k)); break;
                case 8: due(23, "core()", x.core(), p.core()); break;
                case 9: {
                    int point = somePoint(), c = dice.near(0, 10), side = dice.near(0, 1);
                    due(24, "asked(" + point + ", " + c + ", " + side + ")", x.asked(point, c, side), p.asked(point, c, side));
                    break;
                }
                default:
                    if (dice.below(2) == 0) {
                        due(25, "image()", x.image(), p.image());
                    } else {
                        due(26, "restore()", x.restore(), p.restore());
                    }
            }
        }

        private void useSheets() {
            int s = someSheet(), t = someSheet();
            int lane = in(s) && p.laneOf(s) >= 0 && dice.below(12) > 0 ? p.laneOf(s) : dice.near(0, 3);
            int i = dice.below(4) == 0 ? dice.near(-1, 24) : dice.from(0, 6), j = dice.below(4) == 0 ? dice.near(-1, 24) : dice.from(0, 6);
            switch (dice.below(12)) {
                case 0: {
                    int n = dice.below(6) == 0 ? dice.near(-1, 24) : dice.from(0, 24), kind = dice.below(2) == 0 ? 1 : dice.near(0, 3);
                    due(29, "sheet(" + s + ", " + kind + ", " + n + ")", x.sheet(s, kind, n), p.sheet(s, kind, n));
                    break;
                }
                case 1:
                    if (dice.below(4) == 0) {
                        due(30, "clear(" + s + ")", x.clear(s), p.clear(s));
                    }
                    break;
                case 2: case 3: case 4: {
                    long v = someItem();
                    due(31, "item(" + s + ", " + lane + ", " + i + ", " + v + ")", x.item(s, lane, i, v), p.item(s, lane, i, v));
                    break;
                }
                case 5: case 6: {
                    int n = dice.below(4) == 0 ? dice.near(-1, 24) : dice.from(0, 5);
                    due(32, "copy(" + s + ", " + i + ", " + t + ", " + j + ", " + n + ")", x.copy(s, i, t, j, n), p.copy(s, i, t, j, n));
                    break;
                }
                case 7: case 8: {
                    int n = dice.below(3) == 0 ? dice.near(1, 24) : dice.from(1, 6);
                    due(28, "film(" + n + ", " + s + ", " + lane + ", " + i + ")", x.film(n, s, lane, i), p.film(n, s, lane, i));
                    break;
                }
                default: {
                    int k = constraint(), n = dice.below(3) == 0 ? dice.near(1, 8) : dice.from(1, 3), what = dice.near(0, 1);
                    due(27, "seen(" + k + ", " + s + ", " + lane + ", " + i + ", " + n + ", " + what + ")",
                        x.seen(k, s, lane, i, n, what), p.seen(k, s, lane, i, n, what));
                }
            }
        }

        /** Mostly one that holds a row. */
        private int someSheet() {
            int s = dice.near(0, 3);
            return in(s) && p.laneOf(s) < 0 && dice.below(5) > 0 ? dice.from(0, 3) : s;
        }

        private static boolean in(int sheet) {
            return sheet >= 0 && sheet < 4;
        }

        private long someItem() {
            switch (dice.below(6)) {
                case 0: return dice.near(0, 4095);
                case 1: return ((long) dice.below(1000) << 32) + dice.below(5000);
                case 2: return (long) dice.below(1000) * 256 - 128000;
                default: return somePoint();
            }
        }
    }

    /** The second reading. */
    private static final class Plain {
        List<int[]> constraints = new ArrayList<>();
        int most = 4;
        private long draw = 1;
        private ArrayDeque<Object[]> past = new ArrayDeque<>();
        private Object[] image = null;
        private String tape = "";
        private final Object[] sheets = new Object[4];

        private static boolean in(long v, long least, long greatest) {
            return least <= v && v <= greatest;
        }

        private boolean is(int k) {
            return in(k, 0, constraints.size() - 1);
        }

        private static List<int[]> deep(List<int[]> list) {
            List<int[]> other = new ArrayList<>();
            for (int[] one : list) {
                other.add(one.clone());
            }
            return other;
        }

        private void remember() {
            past.addLast(new Object[] {deep(constraints), most, draw});
            if (past.size() > 8) {
                past.removeFirst();
            }
        }

        @SuppressWarnings("unchecked")
        private void become(Object[] state) {
            constraints = deep((List<int[]>) state[0]);
            most = (Integer) state[1];
            draw = (Long) state[2];
        }

        static boolean fulfils(int kind, int sum) {
            return kind == 0 ? sum >= 0 : kind == 1 ? sum <= 0 : kind == 2 ? sum == 0 : kind == 3 ? sum != 0 : sum % 2 == 0;
        }

        private static int[] values(int point) {
            return new int[] {point / 512, point / 64 % 8, point / 8 % 8, point % 8};
        }

        private static int sumOf(int[] one, int[] x) {
            return one[0] * x[0] + one[1] * x[1] + one[2] * x[2] + one[3] * x[3] + one[4];
        }

        /** All points of the box at which the constraints told hold. */
        private List<int[]> points(List<int[]> asked) {
            List<int[]> all = new ArrayList<>();
            for (int a = 0; a <= most; a++) {
                for (int b = 0; b <= most; b++) {
                    for (int c = 0; c <= most; c++) {
                        for (int d = 0; d <= most; d++) {
                            int[] x = {a, b, c, d};
                            boolean good = true;
                            for (int[] one : asked) {
                                good = good && fulfils(one[5], sumOf(one, x));
                            }
                            if (good) {
                                all.add(x);
                            }
                        }
                    }
                }
            }
            return all;
        }

        private static int number(int[] x) {
            return x[0] * 512 + x[1] * 64 + x[2] * 8 + x[3];
        }

        int add(int kind, int factors, int rest) {
            if (!in(kind, 0, 4) || !in(factors, 0, 159999) || !in(rest, -99, 99)) {
                return BAD;
            }
            int[] one = {factors / 8000 - 9, factors / 400 % 20 - 9, factors / 20 % 20 - 9, factors % 20 - 9, rest, kind};
            for (int v = 0; v < 4; v++) {
                if (one[v] > 9) {
                    return BAD;
                }
            }
            if (constraints.size() == 8) {
                return FULL;
            }
            remember();
            constraints.add(one);
            return constraints.size() - 1;
        }

        int of(int k, int what) {
            return is(k) && in(what, 0, 5) ? constraints.get(k)[what] : BAD;
        }

        int sum(int k, int point) {
            return is(k) && in(point, 0, 4095) ? sumOf(constraints.get(k), values(point)) : BAD;
        }

        int hold(int point) {
            if (!in(point, 0, 4095)) {
                return BAD;
            }
            int set = 0;
            for (int k = 0; k < constraints.size(); k++) {
                int[] one = constraints.get(k);
                if (fulfils(one[5], sumOf(one, values(point)))) {
                    set += 1 << k;
                }
            }
            return set;
        }

        int type(int letter) {
            if (!in(letter, 32, 126)) {
                return BAD;
            }
            if (tape.length() == 130) {
                return FULL;
            }
            tape += (char) letter;
            return tape.length();
        }

        int system() {
            String text = tape;
            tape = "";
            Scan scan = new Scan();
            for (int i = 0; i < text.length(); i++) {
                if (!scan.take(text.charAt(i))) {
                    return -1000020 - i;
                }
            }
            if (!scan.mayEnd()) {
                return -1000020 - text.length();
            }
            constraints = scan.all;
            most = scan.most;
            past.clear();
            return constraints.size();
        }

        int count(int what) {
            switch (what) {
                case 0: return constraints.size();
                case 1: return most;
                case 2: return points(constraints).size();
                case 3: {
                    int least = Integer.MAX_VALUE;
                    for (int[] x : points(constraints)) {
                        least = Math.min(least, number(x));
                    }
                    return least == Integer.MAX_VALUE ? NONE : least;
                }
                case 4: return past.size();
                default: return BAD;
            }
        }

        int drop(int k) {
            if (!is(k)) {
                return BAD;
            }
            remember();
            constraints.remove(k);
            return constraints.size();
        }

        private int put(int k, int what, int v) {
            int old = constraints.get(k)[what];
            if (old == v) {
                return NOT;
            }
            remember();
            constraints.get(k)[what] = v;
            return old;
        }

        int change(int k, int what, int v) {
            boolean good = is(k) && in(what, 0, 4) && (what == 4 ? in(v, -99, 99) : in(v, -9, 9));
            return good ? put(k, what, v) : BAD;
        }

        int shape(int k, int kind) {
            return is(k) && in(kind, 0, 4) ? put(k, 5, kind) : BAD;
        }

        int turn(int k) {
            if (!is(k)) {
                return BAD;
            }
            remember();
            int[] one = constraints.get(k);
            for (int i = 0; i < 5; i++) {
                one[i] = 0 - one[i];
            }
            return points(constraints).size();
        }

        int call(int v) {
            if (!in(v, 1, 7)) {
                return BAD;
            }
            if (v == most) {
                return NOT;
            }
            remember();
            int old = most;
            most = v;
            return old;
        }

        int drift(int n) {
            if (!in(n, 1, 40)) {
                return BAD;
            }
            for (int i = 0; i < n; i++) {
                remember();
                BigInteger next = BigInteger.valueOf(draw).multiply(BigInteger.valueOf(1103515245)).add(BigInteger.valueOf(12345));
                draw = next.mod(BigInteger.ONE.shiftLeft(31)).longValueExact();
                int x = (int) (draw / 65536);
                if (!constraints.isEmpty()) {
                    constraints.get(x % constraints.size())[(x / 8) % 5] = (x / 64) % 19 - 9;
                }
            }
            return points(constraints).size();
        }

        int undo() {
            if (past.isEmpty()) {
                return NONE;
            }
            become(past.removeLast());
            return past.size();
        }

        int seed(int v) {
            if (v < 0) {
                return BAD;
            }
            int old = (int) draw;
            draw = v;
            return old;
        }

        private static int asked(TreeSet<Integer> numbers, int what, int third) {
            if (what == 2) {
                return third;
            }
            if (numbers.isEmpty()) {
                return NONE;
            }
            return what == 0 ? numbers.first() : numbers.last();
        }

        int range(int v, int what) {
            if (!in(v, 0, 3) || !in(what, 0, 2)) {
                return BAD;
            }
            TreeSet<Integer> numbers = new TreeSet<>();
            int set = 0;
            for (int[] x : points(constraints)) {
                numbers.add(x[v]);
                set |= 1 << x[v];
            }
            return asked(numbers, what, set);
        }

        int apart(int v, int w, int what) {
            if (!in(v, 0, 3) || !in(w, 0, 3) || v == w || !in(what, 0, 2)) {
                return BAD;
            }
            TreeSet<Integer> numbers = new TreeSet<>();
            for (int[] x : points(constraints)) {
                numbers.add(x[w] - x[v]);
            }
            return asked(numbers, what, numbers.size());
        }

        private List<int[]> rows(int v) {
            List<int[]> all = new ArrayList<>();
            for (int[] one : constraints) {
                int[] straight = Arrays.copyOf(one, 5);
                int[] turned = Arrays.copyOf(one, 5);
                for (int i = 0; i < 5; i++) {
                    turned[i] = -turned[i];
                }
                switch (one[5]) {
                    case 0: all.add(straight); break;
                    case 1: all.add(turned); break;
                    case 2: all.add(straight); all.add(turned); break;
                    default: break;
                }
            }
            int[] low = new int[5];
            low[v] = 1;
            all.add(low);
            int[] high = new int[5];
            high[v] = -1;
            high[4] = most;
            all.add(high);
            return all;
        }

        private static int[] reduced(int[] row) {
            BigInteger common = BigInteger.ZERO;
            for (int i = 0; i < 4; i++) {
                common = common.gcd(BigInteger.valueOf(row[i]));
            }
            int g = common.intValue();
            if (g == 0) {
                return row;
            }
            int left = ((row[4] % g) + g) % g;
            return new int[] {row[0] / g, row[1] / g, row[2] / g, row[3] / g, (row[4] - left) / g};
        }

        private List<int[]> shadow(int v, boolean dark) {
            List<int[]> without = new ArrayList<>();
            List<int[]> lower = new ArrayList<>();
            List<int[]> upper = new ArrayList<>();
            for (int[] row : rows(v)) {
                (row[v] == 0 ? without : row[v] > 0 ? lower : upper).add(row);
            }
            List<int[]> all = new ArrayList<>();
            for (int[] row : without) {
                all.add(reduced(row));
            }
            for (int[] low : lower) {
                for (int[] up : upper) {
                    int a = low[v], b = 0 - up[v];
                    int[] row = new int[5];
                    for (int i = 0; i < 5; i++) {
                        row[i] = b * low[i] + a * up[i];
                    }
                    row[4] -= dark ? (a - 1) * (b - 1) : 0;
                    all.add(reduced(row));
                }
            }
            return all;
        }

        int row(int v, int which, int k, int i) {
            if (!in(v, 0, 3) || !in(which, 0, 1) || k < -1 || !in(i, 0, 4)) {
                return BAD;
            }
            List<int[]> all = shadow(v, which == 1);
            if (k == -1) {
                return all.size();
            }
            return k < all.size() ? all.get(k)[i] : BAD;
        }

        private static boolean all(List<int[]> rows, int[] x) {
            for (int[] row : rows) {
                if (sumOf(row, x) < 0) {
                    return false;
                }
            }
            return true;
        }

        int deep(int v, int what) {
            if (!in(v, 0, 3) || !in(what, 0, 4)) {
                return BAD;
            }
            Set<Integer> real = new HashSet<>(), dark = new HashSet<>(), some = new HashSet<>();
            List<int[]> realRows = shadow(v, false), darkRows = shadow(v, true), rows = rows(v);
            for (int[] x : points(Collections.emptyList())) {
                int value = x[v];
                if (all(rows, x)) {
                    x[v] = 0;
                    some.add(number(x));
                }
                x[v] = value;
                if (value == 0 && all(realRows, x)) {
                    real.add(number(x));
                }
                if (value == 0 && all(darkRows, x)) {
                    dark.add(number(x));
                }
            }
            Set<Integer> grey = new HashSet<>(real);
            grey.removeAll(dark);
            Set<Integer> lit = new HashSet<>(grey);
            lit.retainAll(some);
            return List.of(real, dark, some, grey, lit).get(what).size();
        }

        int spare(int what) {
            if (!in(what, 0, 1)) {
                return BAD;
            }
            int best = NONE, many = NONE;
            for (int k = 0; k < constraints.size(); k++) {
                List<int[]> others = new ArrayList<>(constraints);
                others.remove(k);
                int points = points(others).size();
                if (points > many) {
                    best = k;
                    many = points;
                }
            }
            return what == 0 ? best : many;
        }

        int stretch(int k) {
            if (!is(k)) {
                return BAD;
            }
            List<int[]> others = new ArrayList<>(constraints);
            int[] one = others.remove(k);
            List<int[]> points = points(others);
            for (int by = 0; by <= 99; by++) {
                for (int sign = 1; sign >= -1; sign -= 2) {
                    for (int[] x : points) {
                        if (fulfils(one[5], sumOf(one, x) + sign * by)) {
                            return sign * by;
                        }
                    }
                }
            }
            return NONE;
        }

        int core() {
            int size = constraints.size();
            if (!points(constraints).isEmpty()) {
                return NONE;
            }
            for (int many = 0; many <= size; many++) {
                for (int set = 0; set < 1 << size; set++) {
                    List<int[]> alone = new ArrayList<>();
                    for (int k = 0; k < size; k++) {
                        if ((set >> k) % 2 == 1) {
                            alone.add(constraints.get(k));
                        }
                    }
                    if (alone.size() == many && points(alone).isEmpty()) {
                        return set;
                    }
                }
            }
            return 0;
        }

        int asked(int point, int c, int what) {
            if (!in(point, 0, 4095) || !in(c, 0, 10) || !in(what, 0, 1)) {
                return BAD;
            }
            for (int value : values(point)) {
                if (value > most) {
                    return BAD;
                }
            }
            BigInteger above = BigInteger.ONE, below = BigInteger.ONE;
            for (int[] one : constraints) {
                boolean holds = fulfils(one[5], sumOf(one, values(point)));
                above = above.multiply(BigInteger.valueOf(holds ? 10 : 10 - c));
                below = below.multiply(BigInteger.TEN);
            }
            BigInteger common = above.gcd(below);
            return (what == 0 ? above : below).divide(common).intValueExact();
        }

        int image() {
            ArrayDeque<Object[]> all = new ArrayDeque<>(past);
            image = new Object[] {deep(constraints), most, draw, all};
            return 1;
        }

        @SuppressWarnings("unchecked")
        int restore() {
            if (image == null) {
                return NONE;
            }
            become(image);
            past = new ArrayDeque<>((ArrayDeque<Object[]>) image[3]);
            return 1;
        }

        int laneOf(int sheet) {
            Object row = sheets[sheet];
            return row instanceof byte[] ? 0 : row instanceof short[] ? 1 : row instanceof int[] ? 2 : row instanceof long[] ? 3 : -1;
        }

        private long get(int sheet, int lane, int i) {
            Object row = sheets[sheet];
            switch (lane) {
                case 0: return ((byte[]) row)[i];
                case 1: return ((short[]) row)[i];
                case 2: return ((int[]) row)[i];
                default: return ((long[]) row)[i];
            }
        }

        private void set(int sheet, int lane, int i, long v) {
            Object row = sheets[sheet];
            switch (lane) {
                case 0: ((byte[]) row)[i] = (byte) v; break;
                case 1: ((short[]) row)[i] = (short) v; break;
                case 2: ((int[]) row)[i] = (int) v; break;
                default: ((long[]) row)[i] = v;
            }
        }

        /** 0 where the machine finds nothing wrong with items i to i and n less 1. */
        private int found(int sheet, int lane, int i, int n) {
            try {
                if (sheets[sheet] == null) {
                    throw new NullPointerException();
                }
                for (int k = 0; k < n; k++) {
                    get(sheet, lane, i + k);
                }
                return 0;
            } catch (NullPointerException e) {
                return NULL;
            } catch (ClassCastException e) {
                return CAST;
            } catch (ArrayIndexOutOfBoundsException e) {
                return INDEX;
            }
        }

        int seen(int k, int sheet, int lane, int i, int n, int what) {
            if (!is(k) || !in(sheet, 0, 3) || !in(lane, 0, 3) || !in(n, 1, 8) || !in(what, 0, 1)) {
                return BAD;
            }
            int found = found(sheet, lane, i, n);
            if (found != 0) {
                return found;
            }
            int always = 31, never = 31;
            for (int j = i; j < i + n; j++) {
                if (!in(get(sheet, lane, j), 0, 4095)) {
                    return NOT;
                }
                int sum = sumOf(constraints.get(k), values((int) get(sheet, lane, j)));
                for (int kind = 0; kind < 5; kind++) {
                    if (fulfils(kind, sum)) {
                        never &= ~(1 << kind);
                    } else {
                        always &= ~(1 << kind);
                    }
                }
            }
            return what == 0 ? always : never;
        }

        int film(int n, int sheet, int lane, int i) {
            if (!in(n, 1, 24) || !in(sheet, 0, 3) || !in(lane, 0, 3)) {
                return BAD;
            }
            int found = found(sheet, lane, i, n);
            if (found != 0) {
                return found;
            }
            TreeSet<Integer> numbers = new TreeSet<>();
            for (int[] x : points(constraints)) {
                numbers.add(number(x));
            }
            for (int k = 0; k < n; k++) {
                Integer next = numbers.pollFirst();
                set(sheet, lane, i + k, next == null ? -1 : next);
            }
            return n;
        }

        int sheet(int sheet, int lane, int n) {
            if (!in(sheet, 0, 3) || !in(lane, 0, 3) || n > 24) {
                return BAD;
            }
            try {
                sheets[sheet] = lane == 0 ? new byte[n] : lane == 1 ? new short[n] : lane == 2 ? new int[n] : new long[n];
                return n;
            } catch (NegativeArraySizeException e) {
                return SIZE;
            }
        }

        int clear(int sheet) {
            if (!in(sheet, 0, 3)) {
                return BAD;
            }
            if (sheets[sheet] == null) {
                return NULL;
            }
            int many = java.lang.reflect.Array.getLength(sheets[sheet]);
            sheets[sheet] = null;
            return many;
        }

        int item(int sheet, int lane, int i, long v) {
            if (!in(sheet, 0, 3) || !in(lane, 0, 3)) {
                return BAD;
            }
            int found = found(sheet, lane, i, 1);
            if (found == 0) {
                set(sheet, lane, i, v);
            }
            return found == 0 ? 1 : found;
        }

        int copy(int from, int i, int to, int j, int n) {
            if (!in(from, 0, 3) || !in(to, 0, 3)) {
                return BAD;
            }
            try {
                System.arraycopy(sheets[from], i, sheets[to], j, n);
                return n;
            } catch (NullPointerException e) {
                return NULL;
            } catch (ArrayStoreException e) {
                return CAST;
            } catch (IndexOutOfBoundsException e) {
                return INDEX;
            }
        }
    }

    /** A system letter by letter: what may stand next is told by what stands ahead. */
    private static final class Scan {
        private enum At { START, GAP, OPEN, SIGN, NUMBER, LETTER }

        final List<int[]> all = new ArrayList<>();
        int most = 0;
        private At at = At.START;
        private int[] one;
        private String told;
        private String digits;
        private boolean isCut;
        private int sign;

        boolean mayEnd() {
            return at == At.GAP;
        }

        boolean take(char c) {
            if (c == ' ') {
                isCut = true;
                return true;
            }
            switch (at) {
                case START: return start(c);
                case GAP: return gap(c);
                case OPEN: return open(c);
                case SIGN: return isNumber(c) || isLetter(c, 1);
                case NUMBER: return number(c);
                default: return isSign(c) || isEnd(c);
            }
        }

        private boolean start(char c) {
            most = c - '0';
            at = At.GAP;
            return "1234567".indexOf(c) >= 0;
        }

        private boolean gap(char c) {
            one = new int[6];
            told = "";
            at = At.OPEN;
            return c == ';' && all.size() < 8;
        }

        private boolean open(char c) {
            sign = 1;
            return isSign(c) || isNumber(c) || isLetter(c, 1);
        }

        private boolean isSign(char c) {
            if (c != '+' && c != '-') {
                return false;
            }
            sign = c == '+' ? 1 : -1;
            at = At.SIGN;
            return true;
        }

        private boolean isNumber(char c) {
            if ("0123456789".indexOf(c) < 0) {
                return false;
            }
            digits = "" + c;
            isCut = false;
            at = At.NUMBER;
            return true;
        }

        private boolean isLetter(char c, int factor) {
            int v = "abcd".indexOf(c);
            if (v < 0 || told.indexOf(c) >= 0) {
                return false;
            }
            told += c;
            one[v] = sign * factor;
            at = At.LETTER;
            return true;
        }

        private boolean number(char c) {
            if ("0123456789".indexOf(c) >= 0) {
                digits += c;
                return !isCut && digits.length() == 2;
            }
            int value = Integer.parseInt(digits);
            if ("abcd".indexOf(c) >= 0) {
                return value <= 9 && isLetter(c, value);
            }
            if (told.contains("1")) {
                return false;
            }
            told += "1";
            one[4] = sign * value;
            return isSign(c) || isEnd(c);
        }

        private boolean isEnd(char c) {
            one[5] = "><=#%".indexOf(c);
            all.add(one);
            at = At.GAP;
            return one[5] >= 0;
        }
    }
}
