/**
 * Constraints on four whole numbers in a box, and the shadows that they throw when one of the four is taken away.
 * The numbered promises of the document say what each call answers.
 */
public final class DarkShadows {
    public static final int BAD = -1000001, NOT = -1000002, FULL = -1000003, NONE = -1000004, NULL = -1000011, CAST = -1000012, INDEX = -1000013, SIZE = -1000014;

    private static final int FAULT = -1000020;
    private static final int VARIABLES = 4, GREATEST_MOST = 7, LAST_POINT = 4095;
    private static final int CONSTRAINTS = 8, GREATEST_FACTOR = 9, GREATEST_REST = 99;
    private static final int LEAST = 0, UTMOST = 1, SAME = 2, OTHER = 3, EVEN = 4;
    private static final int GREATEST_STRETCH = 99, GREATEST_DRIFT = 40, TENTHS = 10;
    private static final int LANES = 4, SHEETS = 4, SHEET_ITEMS = 24, SEEN_ITEMS = 8;

    private final Book book;
    private final Book kept;
    private boolean hasImage;
    private final Tape tape;
    private final Search search;
    private final Shade shade;
    private final Sheets sheets;

    public DarkShadows() {
        book = new Book();
        kept = new Book();
        tape = new Tape();
        search = new Search();
        shade = new Shade();
        sheets = new Sheets();
    }

    // ---- 1 constraints

    public int add(int kind, int factors, int rest) {
        if (outside(kind, LEAST, EVEN) || outside(rest, -GREATEST_REST, GREATEST_REST) || !Told.areFactors(factors)) {
            return BAD;
        }
        if (book.now.size >= CONSTRAINTS) {
            return FULL;
        }
        book.keep();
        book.now.append(kind, factors, rest);
        return book.now.size - 1;
    }

    public int of(int constraint, int what) {
        if (isNoConstraint(constraint) || outside(what, 0, Told.KIND)) {
            return BAD;
        }
        return book.now.cell(constraint, what);
    }

    public int sum(int constraint, int point) {
        if (isNoConstraint(constraint) || outside(point, 0, LAST_POINT)) {
            return BAD;
        }
        return book.now.sumAt(constraint, point);
    }

    public int hold(int point) {
        if (outside(point, 0, LAST_POINT)) {
            return BAD;
        }
        return book.now.holdingAt(point);
    }

    public int type(int letter) {
        if (outside(letter, ' ', '~')) {
            return BAD;
        }
        if (tape.isFull()) {
            return FULL;
        }
        tape.append((char) letter);
        return tape.length;
    }

    public int system() {
        boolean read = tape.read();
        int fault = FAULT - tape.place;
        tape.length = 0;
        if (!read) {
            return fault;
        }
        book.begin(tape.told);
        return book.now.size;
    }

    public int count(int what) {
        if (what == 0) {
            return book.now.size;
        }
        if (what == 1) {
            return book.now.most;
        }
        if (what == 2) {
            return search.pointCount(book.now);
        }
        if (what == 3) {
            int first = search.pointFrom(book.now, 0);
            return first < 0 ? NONE : first;
        }
        return what == 4 ? book.known : BAD;
    }

    // ---- what is done

    public int drop(int constraint) {
        if (isNoConstraint(constraint)) {
            return BAD;
        }
        book.keep();
        book.now.remove(constraint);
        return book.now.size;
    }

    public int change(int constraint, int what, int v) {
        if (isNoConstraint(constraint) || outside(what, 0, Told.REST)) {
            return BAD;
        }
        int greatest = what == Told.REST ? GREATEST_REST : GREATEST_FACTOR;
        if (outside(v, -greatest, greatest)) {
            return BAD;
        }
        return replace(constraint, what, v);
    }

    public int shape(int constraint, int kind) {
        if (isNoConstraint(constraint) || outside(kind, LEAST, EVEN)) {
            return BAD;
        }
        return replace(constraint, Told.KIND, kind);
    }

    public int turn(int constraint) {
        if (isNoConstraint(constraint)) {
            return BAD;
        }
        book.keep();
        book.now.negate(constraint);
        return search.pointCount(book.now);
    }

    public int call(int most) {
        if (outside(most, 1, GREATEST_MOST)) {
            return BAD;
        }
        int old = book.now.most;
        if (old == most) {
            return NOT;
        }
        book.keep();
        book.now.setMost(most);
        return old;
    }

    public int drift(int n) {
        if (outside(n, 1, GREATEST_DRIFT)) {
            return BAD;
        }
        for (int i = 0; i < n; i++) {
            book.keep();
            book.now.driftOnce();
        }
        return search.pointCount(book.now);
    }

    public int undo() {
        if (book.known == 0) {
            return NONE;
        }
        book.goBack();
        return book.known;
    }

    public int seed(int v) {
        if (v < 0) {
            return BAD;
        }
        int old = book.now.draw;
        book.now.draw = v;
        return old;
    }

    // ---- 2 looked for

    public int range(int variable, int what) {
        if (isNoVariable(variable) || outside(what, 0, 2)) {
            return BAD;
        }
        int values = search.valuesOf(book.now, variable);
        if (what == 2) {
            return values;
        }
        if (values == 0) {
            return NONE;
        }
        return what == 0 ? Numbers.lowestBit(values) : Numbers.highestBit(values);
    }

    public int apart(int variable, int other, int what) {
        if (isNoVariable(variable) || isNoVariable(other) || variable == other || outside(what, 0, 2)) {
            return BAD;
        }
        int gaps = search.gapsOf(book.now, variable, other);
        if (what == 2) {
            return Integer.bitCount(gaps);
        }
        if (gaps == 0) {
            return NONE;
        }
        return (what == 0 ? Numbers.lowestBit(gaps) : Numbers.highestBit(gaps)) - GREATEST_MOST;
    }

    public int row(int variable, int shadow, int k, int i) {
        if (isNoVariable(variable) || outside(shadow, 0, 1) || k < -1 || outside(i, 0, Told.REST)) {
            return BAD;
        }
        Rows rows = shade.shadowOf(book.now, variable, shadow == 1);
        if (k == -1) {
            return rows.size;
        }
        return k < rows.size ? rows.cell(k, i) : BAD;
    }

    public int deep(int variable, int what) {
        if (isNoVariable(variable) || outside(what, 0, 4)) {
            return BAD;
        }
        return shade.depth(book.now, variable, what);
    }

    public int spare(int what) {
        if (outside(what, 0, 1)) {
            return BAD;
        }
        if (book.now.size == 0) {
            return NONE;
        }
        int best = search.bestSpare(book.now);
        return what == 0 ? best : search.tally[best];
    }

    public int stretch(int constraint) {
        if (isNoConstraint(constraint)) {
            return BAD;
        }
        int least = search.leastStretch(book.now, constraint);
        return Math.abs(least) > GREATEST_STRETCH ? NONE : least;
    }

    public int core() {
        int least = search.leastCore(book.now);
        return least == 0 ? NONE : least;
    }

    public int asked(int point, int c, int what) {
        if (outside(point, 0, LAST_POINT) || !book.now.isInBox(point) || outside(c, 0, TENTHS) || outside(what, 0, 1)) {
            return BAD;
        }
        int failing = book.now.size - Integer.bitCount(book.now.holdingAt(point));
        // A power of a fraction in lowest terms is in lowest terms too.
        int common = Numbers.greatestDivisor(TENTHS - c, TENTHS);
        int part = (what == 0 ? TENTHS - c : TENTHS) / Math.max(common, 1);
        return Numbers.power(part, failing);
    }

    public int image() {
        kept.take(book);
        hasImage = true;
        return 1;
    }

    public int restore() {
        if (!hasImage) {
            return NONE;
        }
        book.take(kept);
        return 1;
    }

    // ---- 3 sheets

    public int seen(int constraint, int sheet, int lane, int i, int n, int what) {
        if (isNoConstraint(constraint) || isNoSheetOrLane(sheet, lane) || outside(n, 1, SEEN_ITEMS) || outside(what, 0, 1)) {
            return BAD;
        }
        int refusal = sheets.refusal(sheet, lane, i, n);
        if (refusal != 0) {
            return refusal;
        }
        return sheets.arePoints(sheet, i, n) ? kindsThatFit(constraint, sheet, i, n, what == 0) : NOT;
    }

    public int film(int n, int sheet, int lane, int i) {
        if (outside(n, 1, SHEET_ITEMS) || isNoSheetOrLane(sheet, lane)) {
            return BAD;
        }
        int refusal = sheets.refusal(sheet, lane, i, n);
        if (refusal != 0) {
            return refusal;
        }
        int point = search.pointFrom(book.now, 0);
        for (int k = 0; k < n; k++) {
            sheets.put(sheet, i + k, point);
            point = point < 0 ? -1 : search.pointFrom(book.now, point + 1);
        }
        return n;
    }

    public int sheet(int sheet, int lane, int n) {
        if (isNoSheetOrLane(sheet, lane) || n > SHEET_ITEMS) {
            return BAD;
        }
        if (n < 0) {
            return SIZE;
        }
        sheets.lay(sheet, lane, n);
        return n;
    }

    public int clear(int sheet) {
        if (outside(sheet, 0, SHEETS - 1)) {
            return BAD;
        }
        if (sheets.holdsNothing(sheet)) {
            return NULL;
        }
        return sheets.takeAway(sheet);
    }

    public int item(int sheet, int lane, int i, long v) {
        if (isNoSheetOrLane(sheet, lane)) {
            return BAD;
        }
        int refusal = sheets.refusal(sheet, lane, i, 1);
        if (refusal != 0) {
            return refusal;
        }
        sheets.put(sheet, i, v);
        return 1;
    }

    public int copy(int from, int i, int to, int j, int n) {
        if (outside(from, 0, SHEETS - 1) || outside(to, 0, SHEETS - 1)) {
            return BAD;
        }
        if (sheets.holdsNothing(from) || sheets.holdsNothing(to)) {
            return NULL;
        }
        if (sheets.lanes[from] != sheets.lanes[to]) {
            return CAST;
        }
        if (sheets.isBeyond(from, i, n) || sheets.isBeyond(to, j, n)) {
            return INDEX;
        }
        sheets.move(from, i, to, j, n);
        return n;
    }

    // ---- what the calls share

    private static boolean outside(int v, int least, int greatest) {
        return v < least || v > greatest;
    }

    private static boolean isNoVariable(int variable) {
        return outside(variable, 0, VARIABLES - 1);
    }

    private static boolean isNoSheetOrLane(int sheet, int lane) {
        return outside(sheet, 0, SHEETS - 1) || outside(lane, 0, LANES - 1);
    }

    private boolean isNoConstraint(int constraint) {
        return outside(constraint, 0, book.now.size - 1);
    }

    private int replace(int constraint, int what, int v) {
        int old = book.now.cell(constraint, what);
        if (old == v) {
            return NOT;
        }
        book.keep();
        book.now.setCell(constraint, what, v);
        return old;
    }

    private int kindsThatFit(int constraint, int sheet, int i, int n, boolean wanted) {
        int kinds = 0;
        for (int kind = LEAST; kind <= EVEN; kind++) {
            boolean fits = true;
            for (int k = 0; k < n && fits; k++) {
                int sum = book.now.sumAt(constraint, (int) sheets.get(sheet, i + k));
                fits = Kinds.holds(kind, sum) == wanted;
            }
            kinds |= fits ? 1 << kind : 0;
        }
        return kinds;
    }

    /** What a KIND asks of a SUM. */
    private static final class Kinds {
        static boolean holds(int kind, int sum) {
            switch (kind) {
                case LEAST: return sum >= 0;
                case UTMOST: return sum <= 0;
                case SAME: return sum == 0;
                case OTHER: return sum != 0;
                default: return (sum & 1) == 0;
            }
        }

        /** The least number to add to a SUM that it holds; above 0 where one below 0 would be no greater. */
        static int lacking(int kind, int sum) {
            switch (kind) {
                case LEAST: return Math.max(0, -sum);
                case UTMOST: return Math.min(0, -sum);
                case SAME: return -sum;
                case OTHER: return sum == 0 ? 1 : 0;
                default: return sum & 1;
            }
        }

        static int ofSign(int sign) {
            switch (sign) {
                case '>': return LEAST;
                case '<': return UTMOST;
                case '=': return SAME;
                case '#': return OTHER;
                case '%': return EVEN;
                default: return -1;
            }
        }
    }

    /** Points as numbers: three bits for each variable, a the highest. */
    private static final class Points {
        static int valueOf(int point, int variable) {
            return point >> 9 - 3 * variable & GREATEST_MOST;
        }

        static int withValue(int point, int variable, int value) {
            return point | value << 9 - 3 * variable;
        }
    }

    private static final class Numbers {
        static int lowestBit(int set) {
            int bit = 0;
            while (bit < 31 && (set >> bit & 1) == 0) {
                bit++;
            }
            return bit;
        }

        static int highestBit(int set) {
            int bit = 31;
            while (bit > 0 && (set >> bit & 1) == 0) {
                bit--;
            }
            return bit;
        }

        static int greatestDivisor(int a, int b) {
            int divisor = Math.abs(a);
            int rest = Math.abs(b);
            for (int i = 0; i < 64 && rest != 0; i++) {
                int next = divisor % rest;
                divisor = rest;
                rest = next;
            }
            return divisor;
        }

        static int power(int base, int exponent) {
            int product = 1;
            for (int i = 0; i < exponent; i++) {
                product *= base;
            }
            return product;
        }
    }

    /** The constraints, MOST and THE DRAW: all that an undone act gives back. */
    private static final class Told {
        static final int REST = 4, KIND = 5, WIDTH = 6;
        static final int CELLS = CONSTRAINTS * WIDTH, SAVED = CELLS + 3;
        static final int DIGITS = 20, BEYOND_FACTORS = DIGITS * DIGITS * DIGITS * DIGITS;

        private final int[] cells;
        int size;
        int most;
        int draw;
        // By it a search knows whether what it saw still stands.
        int changes;

        Told() {
            cells = new int[CELLS];
            most = 4;
            draw = 1;
        }

        /** Each factor and 9 is a digit by 20. */
        static boolean areFactors(int factors) {
            if (outside(factors, 0, BEYOND_FACTORS - 1)) {
                return false;
            }
            int left = factors;
            for (int v = 0; v < VARIABLES; v++) {
                if (left % DIGITS > 2 * GREATEST_FACTOR) {
                    return false;
                }
                left /= DIGITS;
            }
            return true;
        }

        int cell(int constraint, int what) {
            return cells[constraint * WIDTH + what];
        }

        void setCell(int constraint, int what, int v) {
            cells[constraint * WIDTH + what] = v;
            changes++;
        }

        void setMost(int v) {
            most = v;
            changes++;
        }

        void append(int kind, int factors, int rest) {
            int left = factors;
            for (int v = VARIABLES - 1; v >= 0; v--) {
                setCell(size, v, left % DIGITS - GREATEST_FACTOR);
                left /= DIGITS;
            }
            setCell(size, REST, rest);
            setCell(size, KIND, kind);
            size++;
        }

        void remove(int constraint) {
            int behind = (constraint + 1) * WIDTH;
            System.arraycopy(cells, behind, cells, constraint * WIDTH, CELLS - behind);
            size--;
            changes++;
        }

        void negate(int constraint) {
            for (int what = 0; what <= REST; what++) {
                setCell(constraint, what, -cell(constraint, what));
            }
        }

        void driftOnce() {
            draw = draw * 1103515245 + 12345 & 0x7fffffff;
            int x = draw / 65536;
            if (size > 0) {
                setCell(x % size, x / 8 % (REST + 1), x / 64 % 19 - 9);
            }
        }

        int sumAt(int constraint, int point) {
            int at = constraint * WIDTH;
            return cells[at] * Points.valueOf(point, 0) + cells[at + 1] * Points.valueOf(point, 1)
                + cells[at + 2] * Points.valueOf(point, 2) + cells[at + 3] * Points.valueOf(point, 3) + cells[at + REST];
        }

        int holdingAt(int point) {
            int set = 0;
            for (int k = 0; k < size; k++) {
                set |= Kinds.holds(cell(k, KIND), sumAt(k, point)) ? 1 << k : 0;
            }
            return set;
        }

        int all() {
            return (1 << size) - 1;
        }

        boolean isInBox(int point) {
            for (int v = 0; v < VARIABLES; v++) {
                if (Points.valueOf(point, v) > most) {
                    return false;
                }
            }
            return true;
        }

        void take(Told other) {
            System.arraycopy(other.cells, 0, cells, 0, CELLS);
            size = other.size;
            most = other.most;
            draw = other.draw;
            changes++;
        }

        void saveTo(int[] row, int at) {
            System.arraycopy(cells, 0, row, at, CELLS);
            row[at + CELLS] = size;
            row[at + CELLS + 1] = most;
            row[at + CELLS + 2] = draw;
        }

        void loadFrom(int[] row, int at) {
            System.arraycopy(row, at, cells, 0, CELLS);
            size = row[at + CELLS];
            most = row[at + CELLS + 1];
            draw = row[at + CELLS + 2];
            changes++;
        }
    }

    /** What is told now, and what was told ahead of each act that may be undone. */
    private static final class Book {
        static final int ACTS = 8;

        final Told now;
        final int[] past;
        int known;

        Book() {
            now = new Told();
            past = new int[ACTS * Told.SAVED];
        }

        void keep() {
            if (known == ACTS) {
                known--;
                System.arraycopy(past, Told.SAVED, past, 0, known * Told.SAVED);
            }
            now.saveTo(past, known * Told.SAVED);
            known++;
        }

        void goBack() {
            known--;
            now.loadFrom(past, known * Told.SAVED);
        }

        void begin(Told system) {
            int draw = now.draw;
            now.take(system);
            now.draw = draw;
            known = 0;
        }

        void take(Book other) {
            now.take(other.now);
            System.arraycopy(other.past, 0, past, 0, past.length);
            known = other.known;
        }
    }

    /** Looks through all points of the box. */
    private static final class Search {
        static final int LINE = 8, OUTSIDE = -1;

        final int[] tally;
        private final int[] holding;
        private final boolean[] isHeld;
        private int seenChanges;

        Search() {
            tally = new int[CONSTRAINTS];
            holding = new int[LAST_POINT + 1];
            isHeld = new boolean[1 << CONSTRAINTS];
            seenChanges = -1;
        }

        /** The first FULFILLED point that is not below one; -1: none. */
        int pointFrom(Told told, int least) {
            lookAt(told);
            int all = told.all();
            for (int point = least; point <= LAST_POINT; point++) {
                if (holding[point] == all) {
                    return point;
                }
            }
            return -1;
        }

        int pointCount(Told told) {
            lookAt(told);
            int all = told.all();
            int many = 0;
            for (int point = 0; point <= LAST_POINT; point++) {
                if (holding[point] == all) {
                    many++;
                }
            }
            return many;
        }

        int valuesOf(Told told, int variable) {
            lookAt(told);
            int all = told.all();
            int values = 0;
            for (int point = 0; point <= LAST_POINT; point++) {
                if (holding[point] == all) {
                    values |= 1 << Points.valueOf(point, variable);
                }
            }
            return values;
        }

        /** The second less the first at all points, each with 7 more so that it may be a bit. */
        int gapsOf(Told told, int variable, int other) {
            lookAt(told);
            int all = told.all();
            int gaps = 0;
            for (int point = 0; point <= LAST_POINT; point++) {
                if (holding[point] == all) {
                    gaps |= 1 << Points.valueOf(point, other) - Points.valueOf(point, variable) + GREATEST_MOST;
                }
            }
            return gaps;
        }

        /** Leaves in the tally how many points there are without each constraint. */
        int bestSpare(Told told) {
            lookAt(told);
            int all = told.all();
            int best = 0;
            for (int k = 0; k < told.size; k++) {
                tally[k] = 0;
                for (int point = 0; point <= LAST_POINT; point++) {
                    if ((holding[point] | 1 << k) == all) {
                        tally[k]++;
                    }
                }
                best = tally[k] > tally[best] ? k : best;
            }
            return best;
        }

        /** Above 99 where there is no such number. */
        int leastStretch(Told told, int constraint) {
            lookAt(told);
            int all = told.all();
            int kind = told.cell(constraint, Told.KIND);
            int best = GREATEST_STRETCH + 1;
            for (int point = 0; point <= LAST_POINT; point++) {
                if ((holding[point] | 1 << constraint) == all) {
                    int lacking = Kinds.lacking(kind, told.sumAt(constraint, point));
                    best = isNearer(lacking, best) ? lacking : best;
                }
            }
            return best;
        }

        private static boolean isNearer(int a, int b) {
            return Math.abs(a) < Math.abs(b) || Math.abs(a) == Math.abs(b) && a > b;
        }

        /** The empty set where there are points. */
        int leastCore(Told told) {
            lookAt(told);
            int all = told.all();
            for (int set = 0; set <= all; set++) {
                isHeld[set] = false;
            }
            for (int point = 0; point <= LAST_POINT; point++) {
                if (holding[point] != OUTSIDE) {
                    isHeld[holding[point]] = true;
                }
            }
            return isHeld[all] ? 0 : fewestWithoutPoint(all);
        }

        private int fewestWithoutPoint(int all) {
            int best = all;
            for (int set = all; set > 0; set--) {
                if (Integer.bitCount(set) <= Integer.bitCount(best) && leavesNoPoint(set, all)) {
                    best = set;
                }
            }
            return best;
        }

        private boolean leavesNoPoint(int set, int all) {
            for (int held = set; held <= all; held++) {
                if (isHeld[held] && (held & set) == set) {
                    return false;
                }
            }
            return true;
        }

        /** Notes which constraints hold at each point of the box. */
        private void lookAt(Told told) {
            if (seenChanges == told.changes) {
                return;
            }
            for (int first = 0; first <= LAST_POINT; first += LINE) {
                int end = told.isInBox(first) ? told.most : -1;
                for (int d = 0; d < LINE; d++) {
                    holding[first + d] = d <= end ? 0 : OUTSIDE;
                }
                for (int k = 0; k < told.size; k++) {
                    noteLine(told, k, first, first + end);
                }
            }
            seenChanges = told.changes;
        }

        /** From point to point only d grows, by one. */
        private void noteLine(Told told, int constraint, int first, int last) {
            int kind = told.cell(constraint, Told.KIND);
            int step = told.cell(constraint, VARIABLES - 1);
            int sum = told.sumAt(constraint, first);
            for (int point = first; point <= last; point++) {
                if (Kinds.holds(kind, sum)) {
                    holding[point] |= 1 << constraint;
                }
                sum += step;
            }
        }
    }

    /** Rows of four factors and a rest, each to be 0 or more. */
    private static final class Rows {
        static final int WIDTH = VARIABLES + 1;

        private final int[] cells;
        int size;

        Rows(int room) {
            cells = new int[room * WIDTH];
        }

        int cell(int row, int i) {
            return cells[row * WIDTH + i];
        }

        void putTold(Told told, int constraint, int times) {
            for (int i = 0; i < WIDTH; i++) {
                cells[size * WIDTH + i] = times * told.cell(constraint, i);
            }
            size++;
        }

        void putBound(int variable, int factor, int rest) {
            for (int i = 0; i < VARIABLES; i++) {
                cells[size * WIDTH + i] = i == variable ? factor : 0;
            }
            cells[size * WIDTH + VARIABLES] = rest;
            size++;
        }

        void putAlike(Rows from, int row) {
            for (int i = 0; i < WIDTH; i++) {
                cells[size * WIDTH + i] = from.cell(row, i);
            }
            size++;
            reduceLast();
        }

        /** A lower and an upper row together, each by the factor that the other has of the variable. */
        void putPair(Rows from, int lower, int upper, int variable, boolean dark) {
            int a = from.cell(lower, variable);
            int b = -from.cell(upper, variable);
            for (int i = 0; i < WIDTH; i++) {
                cells[size * WIDTH + i] = from.cell(lower, i) * b + from.cell(upper, i) * a;
            }
            cells[size * WIDTH + VARIABLES] -= dark ? (a - 1) * (b - 1) : 0;
            size++;
            reduceLast();
        }

        private void reduceLast() {
            int at = (size - 1) * WIDTH;
            int divisor = 0;
            for (int i = 0; i < VARIABLES; i++) {
                divisor = Numbers.greatestDivisor(divisor, cells[at + i]);
            }
            if (divisor > 1) {
                for (int i = 0; i < WIDTH; i++) {
                    cells[at + i] = Math.floorDiv(cells[at + i], divisor);
                }
            }
        }

        boolean areFulfilled(int point) {
            int a = Points.valueOf(point, 0);
            int b = Points.valueOf(point, 1);
            int c = Points.valueOf(point, 2);
            int d = Points.valueOf(point, 3);
            for (int at = 0; at < size * WIDTH; at += WIDTH) {
                if (cells[at] * a + cells[at + 1] * b + cells[at + 2] * c + cells[at + 3] * d + cells[at + 4] < 0) {
                    return false;
                }
            }
            return true;
        }
    }

    /** What is left to fulfil when one variable is taken away. */
    private static final class Shade {
        static final int IN_REAL = 0, IN_DARK = 1, TRUE = 2, GREY = 3;
        // Eight SAME give two rows each, the box two more; nine lower ones meet nine upper ones at most.
        static final int MOST_ROWS = 18, MOST_PAIRS = 81;

        private final Rows source;
        private final Rows real;
        private final Rows dark;

        Shade() {
            source = new Rows(MOST_ROWS);
            real = new Rows(MOST_PAIRS);
            dark = new Rows(MOST_PAIRS);
        }

        Rows shadowOf(Told told, int variable, boolean isDark) {
            gatherRows(told, variable);
            Rows shadow = isDark ? dark : real;
            castShadow(shadow, variable, isDark);
            return shadow;
        }

        int depth(Told told, int variable, int what) {
            gatherRows(told, variable);
            castShadow(real, variable, false);
            castShadow(dark, variable, true);
            int many = 0;
            for (int point = 0; point <= LAST_POINT; point++) {
                if (Points.valueOf(point, variable) == 0 && told.isInBox(point)) {
                    many += isCounted(told, variable, point, what) ? 1 : 0;
                }
            }
            return many;
        }

        private boolean isCounted(Told told, int variable, int point, int what) {
            switch (what) {
                case IN_REAL: return real.areFulfilled(point);
                case IN_DARK: return dark.areFulfilled(point);
                case TRUE: return isTrue(told, variable, point);
                case GREY: return isGrey(point);
                default: return isGrey(point) && isTrue(told, variable, point);
            }
        }

        private boolean isGrey(int point) {
            return real.areFulfilled(point) && !dark.areFulfilled(point);
        }

        private boolean isTrue(Told told, int variable, int point) {
            for (int value = 0; value <= told.most; value++) {
                if (source.areFulfilled(Points.withValue(point, variable, value))) {
                    return true;
                }
            }
            return false;
        }

        private void gatherRows(Told told, int variable) {
            source.size = 0;
            for (int k = 0; k < told.size; k++) {
                int kind = told.cell(k, Told.KIND);
                if (kind == LEAST || kind == SAME) {
                    source.putTold(told, k, 1);
                }
                if (kind == UTMOST || kind == SAME) {
                    source.putTold(told, k, -1);
                }
            }
            source.putBound(variable, 1, 0);
            source.putBound(variable, -1, told.most);
        }

        private void castShadow(Rows shadow, int variable, boolean isDark) {
            shadow.size = 0;
            for (int row = 0; row < source.size; row++) {
                if (source.cell(row, variable) == 0) {
                    shadow.putAlike(source, row);
                }
            }
            for (int lower = 0; lower < source.size; lower++) {
                for (int upper = 0; upper < source.size; upper++) {
                    if (source.cell(lower, variable) > 0 && source.cell(upper, variable) < 0) {
                        shadow.putPair(source, lower, upper, variable, isDark);
                    }
                }
            }
        }
    }

    /** Letters typed, and the system that they tell. */
    private static final class Tape {
        static final int ROOM = 130, END = -1;

        private final char[] letters;
        int length;
        int place;
        final Told told;
        private int lettersTold;
        private boolean restTold;

        Tape() {
            letters = new char[ROOM];
            told = new Told();
        }

        boolean isFull() {
            return length >= ROOM;
        }

        void append(char letter) {
            letters[length] = letter;
            length++;
        }

        /** Where it is false, the place is that of the letter that can't stand there. */
        boolean read() {
            place = 0;
            told.size = 0;
            int first = next();
            if (outside(first, '1', '7')) {
                return false;
            }
            told.setMost(first - '0');
            place++;
            for (int k = 0; k <= CONSTRAINTS; k++) {
                int sign = next();
                if (sign == END) {
                    return true;
                }
                if (sign != ';' || k == CONSTRAINTS) {
                    return false;
                }
                place++;
                if (!readConstraint()) {
                    return false;
                }
            }
            return false;
        }

        /** The next letter behind blanks, which stays the next one until the place is moved. */
        private int next() {
            while (place < length && letters[place] == ' ') {
                place++;
            }
            return place < length ? letters[place] : END;
        }

        private boolean readConstraint() {
            lettersTold = 0;
            restTold = false;
            for (int what = 0; what < Told.WIDTH; what++) {
                told.setCell(told.size, what, 0);
            }
            for (int terms = 0; terms < ROOM; terms++) {
                if (!readTerm(terms == 0)) {
                    return false;
                }
                int kind = Kinds.ofSign(next());
                if (kind >= 0) {
                    told.setCell(told.size, Told.KIND, kind);
                    told.size++;
                    place++;
                    return true;
                }
            }
            return false;
        }

        private boolean readTerm(boolean isFirst) {
            int sign = next();
            if (sign == '+' || sign == '-') {
                place++;
            } else if (!isFirst) {
                return false;
            }
            int number = readNumber();
            return putTerm(number, sign == '-' ? -1 : 1);
        }

        private boolean putTerm(int number, int times) {
            int letter = next() - 'a';
            if (!outside(letter, 0, VARIABLES - 1)) {
                if (number > GREATEST_FACTOR || (lettersTold >> letter & 1) == 1) {
                    return false;
                }
                told.setCell(told.size, letter, times * (number < 0 ? 1 : number));
                lettersTold |= 1 << letter;
                place++;
                return true;
            }
            if (number < 0 || restTold) {
                return false;
            }
            told.setCell(told.size, Told.REST, times * number);
            restTold = true;
            return true;
        }

        /** -1: there is no number. */
        private int readNumber() {
            if (outside(next(), '0', '9')) {
                return -1;
            }
            int number = 0;
            for (int digits = 0; digits < 2 && place < length && !outside(letters[place], '0', '9'); digits++) {
                number = number * 10 + letters[place] - '0';
                place++;
            }
            return number;
        }
    }

    /** The sheets, each with room for the longest row; an item is held as a long whose value its lane could hold. */
    private static final class Sheets {
        static final int NOTHING = -1;

        private final long[] items;
        final int[] lanes;
        private final int[] sizes;

        Sheets() {
            items = new long[SHEETS * SHEET_ITEMS];
            lanes = new int[SHEETS];
            sizes = new int[SHEETS];
            for (int sheet = 0; sheet < SHEETS; sheet++) {
                lanes[sheet] = NOTHING;
            }
        }

        boolean holdsNothing(int sheet) {
            return lanes[sheet] == NOTHING;
        }

        boolean isBeyond(int sheet, int i, int n) {
            return i < 0 || n < 0 || i > sizes[sheet] - n;
        }

        /** 0 where n items from i on may be used as such of a lane. */
        int refusal(int sheet, int lane, int i, int n) {
            if (holdsNothing(sheet)) {
                return NULL;
            }
            if (lanes[sheet] != lane) {
                return CAST;
            }
            return isBeyond(sheet, i, n) ? INDEX : 0;
        }

        boolean arePoints(int sheet, int i, int n) {
            for (int k = 0; k < n; k++) {
                long v = get(sheet, i + k);
                if (v < 0 || v > LAST_POINT) {
                    return false;
                }
            }
            return true;
        }

        void lay(int sheet, int lane, int n) {
            lanes[sheet] = lane;
            sizes[sheet] = n;
            for (int i = 0; i < n; i++) {
                put(sheet, i, 0);
            }
        }

        int takeAway(int sheet) {
            lanes[sheet] = NOTHING;
            return sizes[sheet];
        }

        long get(int sheet, int i) {
            return items[sheet * SHEET_ITEMS + i];
        }

        void put(int sheet, int i, long v) {
            items[sheet * SHEET_ITEMS + i] = lowestBits(lanes[sheet], v);
        }

        void move(int from, int i, int to, int j, int n) {
            System.arraycopy(items, from * SHEET_ITEMS + i, items, to * SHEET_ITEMS + j, n);
        }

        private static long lowestBits(int lane, long v) {
            switch (lane) {
                case 0: return (byte) v;
                case 1: return (short) v;
                case 2: return (int) v;
                default: return v;
            }
        }
    }
}
