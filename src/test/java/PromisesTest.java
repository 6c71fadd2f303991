/** Each promise by hand: ordinary inputs, the edges that the document names, wrong inputs. */
public final class PromisesTest {
    private static final int BAD = -1000001, NOT = -1000002, FULL = -1000003, NONE = -1000004;
    private static final int NULL = -1000011, CAST = -1000012, INDEX = -1000013, SIZE = -1000014;
    private static final int FAULT = -1000020;
    private static final int[] EXTREMES = {Integer.MIN_VALUE, -1000001, -100, -2, -1, 4096, 160000, Integer.MAX_VALUE};

    private static int passed = 0;
    private static int failed = 0;

    private static void due(int promise, String call, long got, long want) {
        if (got == want) {
            passed++;
            return;
        }
        failed++;
        System.out.println("promise " + promise + ": " + call + " answered " + got + ", due is " + want);
    }

    public static void main(String[] args) {
        constants();
        newObject();
        adding();
        reading();
        typing();
        systemsTold();
        systemFaults();
        counting();
        dropping();
        changing();
        shapingAndTurning();
        calling();
        drifting();
        undoing();
        seeding();
        ranges();
        shadowRows();
        shadowDepths();
        spares();
        stretches();
        cores();
        firstAndLastPoints();
        askedOdds();
        images();
        seenPoints();
        films();
        sheetsLaid();
        copies();
        System.out.println(passed + " passed, " + failed + " failed");
        if (failed != 0) {
            System.exit(1);
        }
    }

    /** Factors as add takes them. */
    private static int pack(int a, int b, int c, int d) {
        return (a + 9) * 8000 + (b + 9) * 400 + (c + 9) * 20 + d + 9;
    }

    private static int point(int a, int b, int c, int d) {
        return a * 512 + b * 64 + c * 8 + d;
    }

    private static void row(Used x, int variable, int shadow, int k, int... want) {
        for (int i = 0; i < 5; i++) {
            due(19, "row(" + variable + ", " + shadow + ", " + k + ", " + i + ")", x.row(variable, shadow, k, i), want[i]);
        }
    }

    private static void cells(int promise, Used x, int constraint, int... want) {
        for (int i = 0; i < 6; i++) {
            due(promise, "of(" + constraint + ", " + i + ")", x.of(constraint, i), want[i]);
        }
    }

    private static void constants() {
        due(1, "BAD", DarkShadows.BAD, BAD);
        due(1, "NOT", DarkShadows.NOT, NOT);
        due(1, "FULL", DarkShadows.FULL, FULL);
        due(1, "NONE", DarkShadows.NONE, NONE);
        due(1, "NULL", DarkShadows.NULL, NULL);
        due(1, "CAST", DarkShadows.CAST, CAST);
        due(1, "INDEX", DarkShadows.INDEX, INDEX);
        due(1, "SIZE", DarkShadows.SIZE, SIZE);
    }

    private static void newObject() {
        Used x = new Used();
        due(1, "count(0)", x.count(0), 0);
        due(1, "count(1)", x.count(1), 4);
        due(1, "count(2)", x.count(2), 625);
        due(1, "count(4)", x.count(4), 0);
        due(1, "hold(0)", x.hold(0), 0);
        due(1, "restore()", x.restore(), NONE);
        due(1, "seed(0)", x.seed(0), 1);
        for (int sheet = 0; sheet < 4; sheet++) {
            due(1, "clear(" + sheet + ")", x.clear(sheet), NULL);
        }
        due(1, "type(32)", x.type(32), 1);
    }

    private static void adding() {
        Used x = new Used();
        due(2, "add", x.add(0, pack(1, -2, 3, -4), 5), 0);
        cells(2, x, 0, 1, -2, 3, -4, 5, 0);
        due(2, "add least", x.add(4, 0, -99), 1);
        cells(2, x, 1, -9, -9, -9, -9, -99, 4);
        due(2, "add greatest", x.add(1, pack(9, 9, 9, 9), 99), 2);
        cells(2, x, 2, 9, 9, 9, 9, 99, 1);
        for (int v : EXTREMES) {
            due(2, "add kind " + v, x.add(v, 0, 0), BAD);
            due(2, "add rest " + v, x.add(0, 0, v), v >= -99 && v <= 99 ? 3 : BAD);
            if (v >= -99 && v <= 99) {
                x.drop(3);
            }
            due(2, "add factors " + v, x.add(0, v, 0), v == 4096 ? 3 : BAD);
            if (v == 4096) {
                x.drop(3);
            }
        }
        due(2, "add kind 5", x.add(5, 0, 0), BAD);
        due(2, "add rest 100", x.add(0, 0, 100), BAD);
        due(2, "add a 10", x.add(0, 19 * 8000, 0), BAD);
        due(2, "add b 10", x.add(0, 19 * 400, 0), BAD);
        due(2, "add c 10", x.add(0, 19 * 20, 0), BAD);
        due(2, "add d 10", x.add(0, 19, 0), BAD);
        for (int k = 3; k < 8; k++) {
            due(2, "add", x.add(2, pack(0, 0, 0, 0), k), k);
        }
        due(2, "add ninth", x.add(2, 0, 0), FULL);
        due(2, "add ninth, wrong", x.add(5, 0, 0), BAD);
        due(2, "count(0)", x.count(0), 8);
    }

    private static void reading() {
        Used x = Used.told("4;2a-3b+c-d+5>;a<;a=;a#;a%");
        cells(3, x, 0, 2, -3, 1, -1, 5, 0);
        for (int v : EXTREMES) {
            due(3, "of " + v, x.of(v, 0), BAD);
            due(3, "of what " + v, x.of(0, v), BAD);
            due(4, "sum " + v, x.sum(v, 0), BAD);
            due(4, "sum at " + v, x.sum(0, v), BAD);
            due(5, "hold " + v, x.hold(v), BAD);
        }
        due(3, "of(5, 0)", x.of(5, 0), BAD);
        due(3, "of(0, 6)", x.of(0, 6), BAD);
        due(4, "sum(5, 0)", x.sum(5, 0), BAD);
        due(4, "sum a", x.sum(0, point(1, 0, 0, 0)), 7);
        due(4, "sum b", x.sum(0, point(0, 1, 0, 0)), 2);
        due(4, "sum c", x.sum(0, point(0, 0, 1, 0)), 6);
        due(4, "sum d", x.sum(0, point(0, 0, 0, 1)), 4);
        due(4, "sum above MOST", x.sum(0, point(7, 7, 7, 7)), -2);
        due(5, "hold 0", x.hold(0), 1 + 2 + 4 + 16);
        due(5, "hold 1", x.hold(point(1, 0, 0, 0)), 1 + 8);
        due(5, "hold 2", x.hold(point(2, 0, 0, 0)), 1 + 8 + 16);
        due(5, "hold above MOST", x.hold(point(7, 7, 7, 7)), 8);
        Used y = Used.told("4;-a>;-a<;-a=;-a#;-a%");
        due(5, "hold -1", y.hold(point(1, 0, 0, 0)), 2 + 8);
        due(5, "hold -2", y.hold(point(2, 0, 0, 0)), 2 + 8 + 16);
    }

    private static void typing() {
        Used x = new Used();
        for (int v : EXTREMES) {
            due(6, "type " + v, x.type(v), BAD);
        }
        due(6, "type 31", x.type(31), BAD);
        due(6, "type 127", x.type(127), BAD);
        due(6, "type 126", x.type(126), 1);
        for (int i = 2; i <= 130; i++) {
            due(6, "type", x.type(32), i);
        }
        due(6, "type full", x.type(32), FULL);
        due(6, "type full, wrong", x.type(31), BAD);
        due(6, "system", x.system(), FAULT);
        due(6, "type empty", x.type(32), 1);
        StringBuilder longest = new StringBuilder("7;a>");
        while (longest.length() < 130) {
            longest.append(' ');
        }
        due(6, "130 letters told", new Used().tell(longest.toString()), 1);
    }

    private static void systemsTold() {
        due(7, "4", new Used().tell("4"), 0);
        Used x = Used.told("7 ; 9 a - b + 0c +12 <; -99=;d-9a +1%");
        due(7, "count(0)", x.count(0), 3);
        due(7, "count(1)", x.count(1), 7);
        cells(7, x, 0, 9, -1, 0, 0, 12, 1);
        cells(7, x, 1, 0, 0, 0, 0, -99, 2);
        cells(7, x, 2, -9, 0, 0, 1, 1, 4);
        due(7, "eight", x.tell("1;a>;b<;c=;d#;1%;+a>;-b>;9d>"), 8);
        due(7, "05a", x.tell("1;05a>"), 1);
        cells(7, x, 0, 5, 0, 0, 0, 0, 0);
        due(7, "number told, then a letter's", x.tell("1;5+5 a-6b>"), 1);
        cells(7, x, 0, 5, -6, 0, 0, 5, 0);
        due(7, "ends at any letter order", x.tell("2;d+c+b+a#"), 1);
        cells(7, x, 0, 1, 1, 1, 1, 0, 3);
    }

    private static void systemFaults() {
        String[] texts = {"", " ", "  ", "0", "8", "x", " 9", "44", "4 4", "4;", "4; ", "4;>", "4;a", "4;a+", "4;a+>", "4;+-a>", "4;e>",
            "4;A>", "4;aa>", "4;a+a>", "4;a+3a>", "4;0a+a>", "4;10a>", "4;10 a>", "4;99a", "4;1 2>", "4;123", "4;1a2>", "4;5+5", "4;5+5>",
            "4;5+5 >", "4;5+55", "4;5+555", "4;5+5-a>", "4;5+12a>", "4;a>>", "4;a>;", "4;a> x", "4;a>a>", "4;;", "4;a;", "4;a!",
            "1;a>;a>;a>;a>;a>;a>;a>;a>;a>", "1;a>;a>;a>;a>;a>;a>;a>;a> ;"};
        int[] places = {0, 1, 2, 0, 0, 0, 1, 1, 2, 2, 3, 2, 3, 4, 4, 3, 2,
            2, 3, 4, 5, 5, 4, 5, 4, 4, 4, 4, 5, 5,
            6, 6, 6, 5, 6, 4, 5, 5, 4, 2, 3, 3,
            25, 26};
        Used x = Used.told("3;a-b>");
        x.add(2, pack(1, 0, 0, 0), -1);
        for (int i = 0; i < texts.length; i++) {
            due(7, "system of '" + texts[i] + "'", x.tell(texts[i]), FAULT - places[i]);
            due(7, "constraints after '" + texts[i] + "'", x.count(0), 2);
            due(7, "MOST after '" + texts[i] + "'", x.count(1), 3);
            due(7, "undo after '" + texts[i] + "'", x.count(4), 1);
        }
        cells(7, x, 0, 1, -1, 0, 0, 0, 0);
        x.seed(77);
        due(7, "system", x.tell("5;b>"), 1);
        due(7, "nothing to undo", x.count(4), 0);
        due(7, "THE DRAW stays", x.seed(1), 77);
    }

    private static void counting() {
        Used x = Used.told("2;a+b-3=;c-2=;d-1>");
        due(8, "count(0)", x.count(0), 3);
        due(8, "count(1)", x.count(1), 2);
        due(8, "count(2)", x.count(2), 4);
        due(8, "count(3)", x.count(3), point(1, 2, 2, 1));
        due(8, "count(4)", x.count(4), 0);
        x.change(2, 4, -3);
        due(8, "count(2)", x.count(2), 0);
        due(8, "count(3)", x.count(3), NONE);
        due(8, "count(4)", x.count(4), 1);
        for (int v : EXTREMES) {
            due(8, "count " + v, x.count(v), BAD);
        }
        due(8, "count 5", x.count(5), BAD);
        due(8, "all of 7", Used.told("7").count(2), 4096);
    }

    private static void dropping() {
        Used x = Used.told("4;a>;b<;c=");
        for (int v : EXTREMES) {
            due(9, "drop " + v, x.drop(v), BAD);
        }
        due(9, "drop(3)", x.drop(3), BAD);
        due(9, "count(4)", x.count(4), 0);
        due(9, "drop(1)", x.drop(1), 2);
        cells(9, x, 0, 1, 0, 0, 0, 0, 0);
        cells(9, x, 1, 0, 0, 1, 0, 0, 2);
        due(9, "drop(1)", x.drop(1), 1);
        due(9, "drop(0)", x.drop(0), 0);
        due(9, "drop(0)", x.drop(0), BAD);
        Used y = Used.told("4;a>;b>;c>;d>;a<;b<;c<;d<");
        due(9, "drop(7)", y.drop(7), 7);
        due(9, "drop(0)", y.drop(0), 6);
        cells(9, y, 5, 0, 0, 1, 0, 0, 1);
    }

    private static void changing() {
        Used x = Used.told("4;2a-3b+5>");
        for (int v : EXTREMES) {
            due(10, "change constraint " + v, x.change(v, 0, 0), BAD);
            due(10, "change what " + v, x.change(0, v, 0), BAD);
            due(10, "change factor to " + v, x.change(0, 0, v < -2 || v > 9 ? v : 10), BAD);
        }
        due(10, "change kind", x.change(0, 5, 1), BAD);
        due(10, "change to -10", x.change(0, 3, -10), BAD);
        due(10, "change rest to 100", x.change(0, 4, 100), BAD);
        due(10, "change rest to -100", x.change(0, 4, -100), BAD);
        due(10, "change same", x.change(0, 1, -3), NOT);
        due(10, "count(4)", x.count(4), 0);
        due(10, "change b", x.change(0, 1, 9), -3);
        due(10, "change rest", x.change(0, 4, -99), 5);
        due(10, "change d", x.change(0, 3, -9), 0);
        cells(10, x, 0, 2, 9, 0, -9, -99, 0);
        due(10, "count(4)", x.count(4), 3);
    }

    private static void shapingAndTurning() {
        Used x = Used.told("4;2a-3b+5>");
        for (int v : EXTREMES) {
            due(11, "shape constraint " + v, x.shape(v, 1), BAD);
            due(11, "shape to " + v, x.shape(0, v), BAD);
            due(12, "turn " + v, x.turn(v), BAD);
        }
        due(11, "shape to 5", x.shape(0, 5), BAD);
        due(11, "shape same", x.shape(0, 0), NOT);
        due(11, "shape", x.shape(0, 4), 0);
        due(11, "shape", x.shape(0, 1), 4);
        due(11, "count(4)", x.count(4), 2);
        due(12, "turn(1)", x.turn(1), BAD);
        int least = Used.told("4;2a-3b+5>").count(2);
        due(12, "turn", x.turn(0), least);
        cells(12, x, 0, -2, 3, 0, 0, -5, 1);
        due(12, "count(4)", x.count(4), 3);
        Used y = Used.told("2;0=");
        due(12, "turn nothing", y.turn(0), 81);
        due(12, "is an act all the same", y.count(4), 1);
    }

    private static void calling() {
        Used x = new Used();
        for (int v : EXTREMES) {
            due(13, "call " + v, x.call(v), BAD);
        }
        due(13, "call 0", x.call(0), BAD);
        due(13, "call 8", x.call(8), BAD);
        due(13, "call 4", x.call(4), NOT);
        due(13, "count(4)", x.count(4), 0);
        due(13, "call 7", x.call(7), 4);
        due(13, "points", x.count(2), 4096);
        due(13, "call 1", x.call(1), 7);
        due(13, "points", x.count(2), 16);
        due(13, "count(4)", x.count(4), 2);
    }

    private static void drifting() {
        Used x = Used.told("4;a+9>;b>");
        for (int v : EXTREMES) {
            due(14, "drift " + v, x.drift(v), BAD);
        }
        due(14, "drift 0", x.drift(0), BAD);
        due(14, "drift 41", x.drift(41), BAD);
        due(14, "seed", x.seed(1), 1);
        // 1 becomes 1103527590; by 65536 that is 16838: constraint 0, by 8 is 2104: the rest, by 64 is 263: 16 less 9.
        due(14, "drift", x.drift(1), 625);
        cells(14, x, 0, 1, 0, 0, 0, 7, 0);
        cells(14, x, 1, 0, 1, 0, 0, 0, 0);
        due(14, "THE DRAW", x.seed(1), 1103527590);
        due(14, "count(4)", x.count(4), 1);
        Used y = new Used();
        due(14, "drift without constraints", y.drift(40), 625);
        due(14, "eight are known", y.count(4), 8);
        long draw = 1;
        for (int i = 0; i < 40; i++) {
            draw = (draw * 1103515245L + 12345L) % 2147483648L;
        }
        due(14, "THE DRAW of 40", y.seed(0), draw);
    }

    private static void undoing() {
        Used x = new Used();
        due(15, "undo nothing", x.undo(), NONE);
        x.seed(5);
        due(15, "seed is no act", x.undo(), NONE);
        x.add(0, pack(1, 0, 0, 0), 1);
        x.change(0, 0, 2);
        x.shape(0, 3);
        x.turn(0);
        x.call(2);
        x.drift(1);
        x.drop(0);
        due(15, "count(4)", x.count(4), 7);
        x.seed(99);
        due(15, "undo drop", x.undo(), 6);
        due(15, "constraints", x.count(0), 1);
        due(15, "undo drift", x.undo(), 5);
        due(15, "THE DRAW", x.seed(5), 5);
        cells(15, x, 0, -2, 0, 0, 0, -1, 3);
        due(15, "undo call", x.undo(), 4);
        due(15, "MOST", x.count(1), 4);
        due(15, "undo turn", x.undo(), 3);
        cells(15, x, 0, 2, 0, 0, 0, 1, 3);
        due(15, "undo shape", x.undo(), 2);
        cells(15, x, 0, 2, 0, 0, 0, 1, 0);
        due(15, "undo change", x.undo(), 1);
        cells(15, x, 0, 1, 0, 0, 0, 1, 0);
        due(15, "undo add", x.undo(), 0);
        due(15, "constraints", x.count(0), 0);
        due(15, "undo nothing", x.undo(), NONE);
        x.add(0, pack(0, 0, 0, 0), 0);
        for (int rest = 1; rest <= 10; rest++) {
            x.change(0, 4, rest);
        }
        for (int left = 7; left >= 0; left--) {
            due(15, "undo of eight", x.undo(), left);
        }
        due(15, "older ones are lost", x.undo(), NONE);
        due(15, "rest", x.of(0, 4), 2);
        x.seed(42);
        x.change(0, 4, 50);
        x.seed(43);
        x.undo();
        due(15, "THE DRAW as ahead of the act", x.seed(0), 42);
    }

    private static void seeding() {
        Used x = new Used();
        due(16, "seed", x.seed(Integer.MAX_VALUE), 1);
        due(16, "seed -1", x.seed(-1), BAD);
        due(16, "seed least", x.seed(Integer.MIN_VALUE), BAD);
        due(16, "seed 0", x.seed(0), Integer.MAX_VALUE);
        due(16, "seed 0", x.seed(0), 0);
        due(16, "count(4)", x.count(4), 0);
    }

    private static void ranges() {
        Used x = Used.told("7;a-2>;a-6<;a%;b-a-1=;c-3=");
        due(17, "least", x.range(0, 0), 2);
        due(17, "greatest", x.range(0, 1), 6);
        due(17, "values", x.range(0, 2), 4 + 16 + 64);
        due(17, "values of b", x.range(1, 2), 8 + 32 + 128);
        due(17, "values of c", x.range(2, 2), 8);
        due(17, "values of d", x.range(3, 2), 255);
        due(18, "b less a", x.apart(0, 1, 0), 1);
        due(18, "b less a", x.apart(0, 1, 1), 1);
        due(18, "b less a", x.apart(0, 1, 2), 1);
        due(18, "a less b", x.apart(1, 0, 0), -1);
        due(18, "a less c", x.apart(2, 0, 0), -1);
        due(18, "a less c", x.apart(2, 0, 1), 3);
        due(18, "a less c", x.apart(2, 0, 2), 3);
        due(18, "d less c", x.apart(2, 3, 2), 8);
        for (int v : EXTREMES) {
            due(17, "range " + v, x.range(v, 0), BAD);
            due(17, "range what " + v, x.range(0, v), BAD);
            due(18, "apart " + v, x.apart(v, 0, 0), BAD);
            due(18, "apart other " + v, x.apart(0, v, 0), BAD);
            due(18, "apart what " + v, x.apart(0, 1, v), BAD);
        }
        due(17, "range 4", x.range(4, 0), BAD);
        due(17, "range what 3", x.range(0, 3), BAD);
        due(18, "apart 4", x.apart(0, 4, 0), BAD);
        due(18, "apart what 3", x.apart(0, 1, 3), BAD);
        due(18, "apart alike", x.apart(2, 2, 0), BAD);
        Used none = Used.told("7;a-9>");
        due(17, "no least", none.range(0, 0), NONE);
        due(17, "no greatest", none.range(0, 1), NONE);
        due(17, "no values", none.range(0, 2), 0);
        due(18, "no least", none.apart(0, 1, 0), NONE);
        due(18, "no greatest", none.apart(0, 1, 1), NONE);
        due(18, "none", none.apart(0, 1, 2), 0);
        due(18, "all gaps of 7", Used.told("7").apart(3, 0, 2), 15);
        due(18, "least of 7", Used.told("7").apart(3, 0, 0), -7);
    }

    private static void shadowRows() {
        Used x = Used.told("5;2a+4b-7>;3a-6c+1<;2b-4d-3=;a#;a%");
        due(19, "rows", x.row(0, 0, -1, 0), 6);
        row(x, 0, 0, 0, 0, 1, 0, -2, -2);
        row(x, 0, 0, 1, 0, -1, 0, 2, 1);
        row(x, 0, 0, 2, 0, 1, 1, 0, -2);
        row(x, 0, 0, 3, 0, 1, 0, 0, 0);
        row(x, 0, 0, 4, 0, 0, 1, 0, -1);
        row(x, 0, 0, 5, 0, 0, 0, 0, 5);
        due(19, "rows", x.row(0, 1, -1, 4), 6);
        row(x, 0, 1, 0, 0, 1, 0, -2, -2);
        // 12b + 12c - 23, less 1 times 2, is -25.
        row(x, 0, 1, 2, 0, 1, 1, 0, -3);
        // 4b + 3, less 1 times 0.
        row(x, 0, 1, 3, 0, 1, 0, 0, 0);
        due(19, "rows of d", x.row(3, 0, -1, 0), 6);
        for (int v : EXTREMES) {
            due(19, "row " + v, x.row(v, 0, 0, 0), BAD);
            due(19, "row shadow " + v, x.row(0, v, 0, 0), BAD);
            due(19, "row i " + v, x.row(0, 0, 0, v), BAD);
            due(19, "row k " + v, x.row(0, 0, v == -1 ? -2 : v, 0), BAD);
        }
        due(19, "row 4", x.row(4, 0, 0, 0), BAD);
        due(19, "shadow 2", x.row(0, 2, 0, 0), BAD);
        due(19, "i 5", x.row(0, 0, 0, 5), BAD);
        due(19, "k 6", x.row(0, 0, 6, 0), BAD);
        Used most = Used.told("7;a=;a=;a=;a=;a=;a=;a=;9a+9b=");
        due(19, "most rows", most.row(0, 0, -1, 0), 81);
        due(19, "last row", most.row(0, 0, 80, 4), 7);
        due(19, "row 81", most.row(0, 0, 81, 4), BAD);
        due(19, "most rows without", most.row(3, 0, -1, 0), 17);
    }

    private static void shadowDepths() {
        // 3a is b + 1 or b + 2: with parts always, for a whole a unless 3 divides b.
        Used x = Used.told("7;3a-b-1>;3a-b-2<");
        due(20, "real", x.deep(0, 0), 8 * 64);
        due(20, "dark", x.deep(0, 1), 0);
        due(20, "true", x.deep(0, 2), 5 * 64);
        due(20, "grey", x.deep(0, 3), 8 * 64);
        due(20, "lit", x.deep(0, 4), 5 * 64);
        Used even = Used.told("4;2a-1=");
        due(20, "real", even.deep(0, 0), 125);
        due(20, "dark", even.deep(0, 1), 0);
        due(20, "true", even.deep(0, 2), 0);
        Used others = Used.told("3;a#;a%");
        due(20, "neither OTHER nor EVEN is asked", others.deep(0, 2), 64);
        due(20, "of d", Used.told("4;a+b-2<").deep(3, 0), 6 * 5);
        for (int v : EXTREMES) {
            due(20, "deep " + v, x.deep(v, 0), BAD);
            due(20, "deep what " + v, x.deep(0, v), BAD);
        }
        due(20, "deep 4", x.deep(4, 0), BAD);
        due(20, "deep what 5", x.deep(0, 5), BAD);
    }

    private static void spares() {
        Used x = new Used();
        due(21, "spare(0)", x.spare(0), NONE);
        due(21, "spare(1)", x.spare(1), NONE);
        for (int v : EXTREMES) {
            due(21, "spare " + v, x.spare(v), BAD);
        }
        due(21, "spare 2", x.spare(2), BAD);
        x.tell("4;a-1<;b=;c=");
        due(21, "which", x.spare(0), 1);
        due(21, "how many", x.spare(1), 50);
        x.tell("4;a-9>;b-9>");
        due(21, "which of none", x.spare(0), 0);
        due(21, "how many of none", x.spare(1), 0);
    }

    private static void stretches() {
        String[] texts = {"4;a-3>", "4;a-9>", "4;a+9<", "4;a-9=", "4;a+9=", "4;0#", "4;1%", "4;99<;a-9>", "7;9a+9b+9c+9d-99=", "4;4a-2=",
            "4;4a-1=", "4;9a+9b+9c+9d+99<", "1;-9a-9b-9c-9d-99>"};
        int[] dues = {0, 5, -9, 5, -9, 1, 1, NONE, 0, 2, 1, -99, 99};
        for (int i = 0; i < texts.length; i++) {
            due(22, "stretch of " + texts[i], Used.told(texts[i]).stretch(0), dues[i]);
        }
        due(22, "less", Used.told("4;4a-3=").stretch(0), -1);
        Used far = Used.told("1;-9a-99>;a-1=");
        due(22, "beyond 99", far.stretch(0), NONE);
        due(22, "rest beyond its bounds", Used.told("1;9a+99<;a=").stretch(0), -99);
        for (int v : EXTREMES) {
            due(22, "stretch " + v, far.stretch(v), BAD);
        }
        due(22, "stretch 2", far.stretch(2), BAD);
    }

    private static void cores() {
        due(23, "of nothing", new Used().core(), NONE);
        due(23, "points", Used.told("4;a>").core(), NONE);
        due(23, "one", Used.told("4;a>;a-9>;b-9>").core(), 2);
        due(23, "two", Used.told("4;a+b-7>;c>;a-3<;b-3<;d-3=").core(), 1 + 4 + 8);
        due(23, "like ones", Used.told("4;a-2>;b-2>;a-1<;b-1<").core(), 1 + 4);
        due(23, "like ones", Used.told("4;a-2>;b-2>;b-1<;a-1<").core(), 2 + 4);
        due(23, "all", Used.told("1;a+b+c+d-4=;a=").core(), 3);
        due(23, "eight", Used.told("1;a+b+c+d-9>;a>;a>;a>;a>;a>;a>;0#").core(), 1);
    }

    private static void firstAndLastPoints() {
        Used last = Used.told("7;a+b+c+d-28=");
        due(8, "count(2)", last.count(2), 1);
        due(8, "count(3)", last.count(3), 4095);
        due(17, "values", last.range(2, 2), 128);
        due(18, "gaps", last.apart(0, 3, 2), 1);
        due(21, "spare", last.spare(1), 4096);
        due(23, "core", last.core(), NONE);
        last.tell("7;a+b+c+d-28=;d#");
        due(21, "spare", last.spare(1), 4096 - 512);
        last.tell("7;a+b+c+d-28=;a-2>;d-9>");
        due(22, "stretch", last.stretch(2), 2);
        Used first = Used.told("7;a+b+c+d=");
        due(4, "sum", first.sum(0, 0), 0);
        due(8, "count(2)", first.count(2), 1);
        due(8, "count(3)", first.count(3), 0);
        due(17, "values", first.range(3, 2), 1);
        due(17, "greatest", first.range(3, 1), 0);
        due(18, "gaps", first.apart(0, 3, 0), 0);
        due(18, "gaps", first.apart(0, 3, 2), 1);
        due(20, "deep", first.deep(0, 2), 1);
        due(23, "core", first.core(), NONE);
        first.sheet(0, 3, 2);
        due(28, "film", first.film(2, 0, 3, 0), 2);
        item(28, first, 0, 3, 0, 0);
        item(28, first, 0, 3, 1, NOT);
        Used two = Used.told("1;a+b+c+d-1<;a=;b=;c=");
        two.sheet(0, 3, 3);
        due(28, "film", two.film(3, 0, 3, 0), 3);
        item(28, two, 0, 3, 0, 0);
        item(28, two, 0, 3, 1, 1);
        item(28, two, 0, 3, 2, NOT);
        due(20, "the least value alone", Used.told("7;a<").deep(0, 2), 512);
        due(20, "the greatest value alone", Used.told("7;a-7>").deep(0, 2), 512);
    }

    private static void askedOdds() {
        Used x = Used.told("4;a>;b#;c-1=;d-5>");
        due(24, "three fail", x.asked(0, 3, 0), 343);
        due(24, "three fail", x.asked(0, 3, 1), 1000);
        due(24, "lowest terms", x.asked(0, 5, 0), 1);
        due(24, "lowest terms", x.asked(0, 5, 1), 8);
        due(24, "lowest terms", x.asked(0, 4, 0), 27);
        due(24, "lowest terms", x.asked(0, 4, 1), 125);
        due(24, "none asked", x.asked(0, 0, 0), 1);
        due(24, "none asked", x.asked(0, 0, 1), 1);
        due(24, "all asked", x.asked(0, 10, 0), 0);
        due(24, "all asked", x.asked(0, 10, 1), 1);
        due(24, "eight fail", Used.told("1;1=;1=;1=;1=;1=;1=;1=;1=").asked(0, 1, 0), 43046721);
        due(24, "eight fail", Used.told("1;1=;1=;1=;1=;1=;1=;1=;1=").asked(0, 1, 1), 100000000);
        due(24, "all hold", Used.told("1;a>").asked(0, 10, 0), 1);
        due(24, "above MOST", x.asked(point(5, 0, 0, 0), 0, 0), BAD);
        due(24, "above MOST", x.asked(point(0, 5, 0, 0), 0, 0), BAD);
        due(24, "above MOST", x.asked(point(0, 0, 5, 0), 0, 0), BAD);
        due(24, "above MOST", x.asked(point(0, 0, 0, 5), 0, 0), BAD);
        due(24, "at MOST", x.asked(point(4, 4, 4, 4), 0, 0), 1);
        for (int v : EXTREMES) {
            due(24, "asked at " + v, x.asked(v, 0, 0), BAD);
            due(24, "asked by " + v, x.asked(0, v, 0), BAD);
            due(24, "asked what " + v, x.asked(0, 0, v), BAD);
        }
        due(24, "asked by 11", x.asked(0, 11, 0), BAD);
        due(24, "asked what 2", x.asked(0, 0, 2), BAD);
    }

    private static void images() {
        Used x = Used.told("3;a>");
        x.change(0, 0, 2);
        x.seed(9);
        x.sheet(0, 1, 3);
        x.type('5');
        due(25, "image", x.image(), 1);
        x.change(0, 0, 3);
        x.add(0, 0, 0);
        x.call(6);
        x.seed(10);
        x.clear(0);
        due(26, "restore", x.restore(), 1);
        due(26, "constraints", x.count(0), 1);
        due(26, "MOST", x.count(1), 3);
        due(26, "factor", x.of(0, 0), 2);
        due(26, "points", x.count(2), 256);
        due(26, "may be undone", x.count(4), 1);
        due(26, "THE DRAW", x.seed(10), 9);
        due(26, "sheets are not kept", x.clear(0), NULL);
        due(26, "nor is THE TAPE", x.type('!'), 2);
        due(26, "undo", x.undo(), 0);
        due(26, "factor", x.of(0, 0), 1);
        due(26, "restore again", x.restore(), 1);
        due(26, "factor", x.of(0, 0), 2);
        x.system();
        due(26, "a system told", x.tell("7;b<;c<"), 2);
        due(26, "leaves the image", x.restore(), 1);
        due(26, "MOST", x.count(1), 3);
        due(26, "may be undone", x.count(4), 1);
        x.call(5);
        due(25, "image anew", x.image(), 1);
        x.call(6);
        x.restore();
        due(26, "MOST", x.count(1), 5);
    }

    private static void seenPoints() {
        Used x = Used.told("4;a-b-2>");
        x.sheet(1, 1, 10);
        x.item(1, 1, 0, point(2, 0, 0, 0));
        x.item(1, 1, 1, point(4, 0, 0, 0));
        x.item(1, 1, 2, point(1, 0, 0, 0));
        x.item(1, 1, 3, point(7, 6, 0, 0));
        x.item(1, 1, 4, 4096);
        x.item(1, 1, 5, -1);
        due(27, "0", x.seen(0, 1, 1, 0, 1, 0), 1 + 2 + 4 + 16);
        due(27, "0 at none", x.seen(0, 1, 1, 0, 1, 1), 8);
        due(27, "0, 2", x.seen(0, 1, 1, 0, 2, 0), 1 + 16);
        due(27, "0, 2 at none", x.seen(0, 1, 1, 0, 2, 1), 0);
        due(27, "2, -1", x.seen(0, 1, 1, 1, 2, 0), 8);
        due(27, "2, -1 at none", x.seen(0, 1, 1, 1, 2, 1), 4);
        due(27, "-1, -1", x.seen(0, 1, 1, 2, 2, 0), 2 + 8);
        due(27, "-1, -1 at none", x.seen(0, 1, 1, 2, 2, 1), 1 + 4 + 16);
        due(27, "4096", x.seen(0, 1, 1, 3, 2, 0), NOT);
        due(27, "-1", x.seen(0, 1, 1, 5, 1, 0), NOT);
        due(27, "eight to the end", x.seen(0, 1, 1, 2, 8, 0), NOT);
        due(27, "beyond", x.seen(0, 1, 1, 3, 8, 0), INDEX);
        due(27, "from -1", x.seen(0, 1, 1, -1, 1, 0), INDEX);
        due(27, "from far", x.seen(0, 1, 1, Integer.MAX_VALUE, 8, 0), INDEX);
        due(27, "from far below", x.seen(0, 1, 1, Integer.MIN_VALUE, 8, 0), INDEX);
        due(27, "of bytes", x.seen(0, 1, 0, 99, 1, 0), CAST);
        due(27, "nothing", x.seen(0, 0, 0, 99, 1, 0), NULL);
        due(27, "n 9", x.seen(0, 0, 0, 0, 9, 0), BAD);
        due(27, "n 0", x.seen(0, 0, 0, 0, 0, 0), BAD);
        due(27, "what 2", x.seen(0, 0, 0, 0, 1, 2), BAD);
        due(27, "lane 4", x.seen(0, 0, 4, 0, 1, 0), BAD);
        due(27, "sheet 4", x.seen(0, 4, 0, 0, 1, 0), BAD);
        due(27, "constraint 1", x.seen(1, 0, 0, 0, 1, 0), BAD);
        for (int v : EXTREMES) {
            due(27, "seen " + v, x.seen(v, 1, 1, 0, 1, 0), BAD);
            due(27, "seen sheet " + v, x.seen(0, v, 1, 0, 1, 0), BAD);
            due(27, "seen lane " + v, x.seen(0, 1, v, 0, 1, 0), BAD);
            due(27, "seen n " + v, x.seen(0, 1, 1, 0, v, 0), BAD);
            due(27, "seen what " + v, x.seen(0, 1, 1, 0, 1, v), BAD);
        }
        x.sheet(2, 3, 1);
        x.item(2, 3, 0, 1L << 32);
        due(27, "a long beyond", x.seen(0, 2, 3, 0, 1, 0), NOT);
        x.item(2, 3, 0, 4095);
        due(27, "the last point", x.seen(0, 2, 3, 0, 1, 0), 2 + 8 + 16);
    }

    private static void films() {
        Used x = Used.told("4;a-1=;b=;c-1<");
        x.sheet(0, 1, 24);
        due(28, "film", x.film(12, 0, 1, 3), 12);
        // What is not filmed stays 0, which is a point; behind the ten points stands -1, which is none.
        item(28, x, 0, 1, 2, 0);
        int[] points = {512, 513, 514, 515, 516, 520, 521, 522, 523, 524};
        for (int k = 0; k < points.length; k++) {
            item(28, x, 0, 1, k + 3, points[k]);
        }
        item(28, x, 0, 1, 13, NOT);
        item(28, x, 0, 1, 14, NOT);
        item(28, x, 0, 1, 15, 0);
        x.sheet(1, 0, 24);
        x.tell("5;a-1=;b=;c=;d-5=");
        due(28, "film of bytes", x.film(1, 1, 0, 23), 1);
        item(28, x, 1, 0, 23, 5);
        due(28, "beyond", x.film(2, 1, 0, 23), INDEX);
        due(28, "below", x.film(2, 1, 0, -1), INDEX);
        due(28, "far", x.film(2, 1, 0, Integer.MAX_VALUE), INDEX);
        due(28, "nothing", x.film(2, 2, 0, 99), NULL);
        due(28, "of shorts", x.film(2, 1, 1, 99), CAST);
        due(28, "n 0", x.film(0, 2, 0, 0), BAD);
        due(28, "n 25", x.film(25, 2, 0, 0), BAD);
        for (int v : EXTREMES) {
            due(28, "film n " + v, x.film(v, 1, 0, 0), BAD);
            due(28, "film sheet " + v, x.film(1, v, 0, 0), BAD);
            due(28, "film lane " + v, x.film(1, 1, v, 0), BAD);
        }
    }

    /** The item that is due, if it is so; else NOT where it is no point, or -1. */
    private static int itemDue(Used x, int sheet, int lane, int i, int want) {
        int point = want & 4095;
        x.image();
        x.tell("7");
        x.add(2, pack(8, 1, 0, 0), -(point / 64));
        x.add(2, pack(0, 0, 8, 1), -(point % 64));
        int ahead = x.seen(0, sheet, lane, i, 1, 0);
        int behind = x.seen(1, sheet, lane, i, 1, 0);
        x.restore();
        if (ahead < 0 || behind < 0) {
            return ahead;
        }
        return (ahead & behind & 4) == 0 ? -1 : point;
    }

    private static void items(int promise, Used x, int sheet, int lane, int... wants) {
        for (int i = 0; i < wants.length; i++) {
            item(promise, x, sheet, lane, i, wants[i]);
        }
    }

    private static void item(int promise, Used x, int sheet, int lane, int i, int want) {
        due(promise, "item " + i + " of sheet " + sheet, itemDue(x, sheet, lane, i, want), want);
    }

    private static void sheetsLaid() {
        Used x = new Used();
        for (int v : EXTREMES) {
            due(29, "sheet " + v, x.sheet(v, 0, 0), BAD);
            due(29, "sheet lane " + v, x.sheet(0, v, 0), BAD);
            due(29, "sheet n " + v, x.sheet(0, 0, v), v < 0 ? SIZE : BAD);
            due(30, "clear " + v, x.clear(v), BAD);
            due(31, "item sheet " + v, x.item(v, 0, 0, 0), BAD);
            due(31, "item lane " + v, x.item(0, v, 0, 0), BAD);
        }
        due(29, "lane 4, n -1", x.sheet(0, 4, -1), BAD);
        due(29, "n 25", x.sheet(0, 0, 25), BAD);
        due(29, "nothing still", x.clear(0), NULL);
        due(29, "n 0", x.sheet(0, 0, 0), 0);
        due(30, "clear empty", x.clear(0), 0);
        due(30, "clear again", x.clear(0), NULL);
        due(30, "clear 4", x.clear(4), BAD);
        due(31, "item of nothing", x.item(0, 0, 0, 0), NULL);
        due(29, "n 24", x.sheet(3, 2, 24), 24);
        due(31, "item", x.item(3, 2, 23, 5), 1);
        due(31, "item 24", x.item(3, 2, 24, 5), INDEX);
        due(31, "item -1", x.item(3, 2, -1, 5), INDEX);
        due(31, "item far", x.item(3, 2, Integer.MAX_VALUE, 5), INDEX);
        due(31, "item of longs", x.item(3, 3, 99, 5), CAST);
        item(31, x, 3, 2, 23, 5);
        due(29, "anew", x.sheet(3, 2, 24), 24);
        item(29, x, 3, 2, 23, 0);
        long[] wide = {256 + 7, 65536 + 1234, (1L << 32) + 4095, 77};
        int[] cut = {7, 1234, 4095, 77};
        for (int lane = 0; lane < 4; lane++) {
            x.sheet(1, lane, 2);
            due(31, "item", x.item(1, lane, 1, wide[lane]), 1);
            item(31, x, 1, lane, 1, cut[lane]);
        }
        x.sheet(1, 0, 1);
        x.item(1, 0, 0, 128);
        item(31, x, 1, 0, 0, NOT);
        due(30, "clear", x.clear(3), 24);
        due(30, "cleared", x.item(3, 2, 0, 0), NULL);
    }

    private static void copies() {
        Used x = new Used();
        x.sheet(0, 1, 6);
        x.sheet(1, 1, 4);
        x.sheet(2, 2, 4);
        for (int i = 0; i < 6; i++) {
            x.item(0, 1, i, i + 1);
        }
        due(32, "forth", x.copy(0, 0, 0, 1, 5), 5);
        int[] forth = {1, 1, 2, 3, 4, 5};
        items(32, x, 0, 1, forth);
        due(32, "back", x.copy(0, 2, 0, 0, 4), 4);
        int[] back = {2, 3, 4, 5, 4, 5};
        items(32, x, 0, 1, back);
        due(32, "other", x.copy(0, 1, 1, 2, 2), 2);
        int[] other = {0, 0, 3, 4};
        items(32, x, 1, 1, other);
        due(32, "n 0 at the ends", x.copy(0, 6, 1, 4, 0), 0);
        due(32, "n 0, i beyond", x.copy(0, 7, 1, 4, 0), INDEX);
        due(32, "n 0, j beyond", x.copy(0, 6, 1, 5, 0), INDEX);
        due(32, "n -1", x.copy(0, 0, 1, 0, -1), INDEX);
        due(32, "n far below", x.copy(0, 0, 1, 0, Integer.MIN_VALUE), INDEX);
        due(32, "n far", x.copy(0, 0, 1, 0, Integer.MAX_VALUE), INDEX);
        due(32, "i -1", x.copy(0, -1, 1, 0, 1), INDEX);
        due(32, "j -1", x.copy(0, 0, 1, -1, 1), INDEX);
        due(32, "i far", x.copy(0, Integer.MAX_VALUE, 1, 0, Integer.MAX_VALUE), INDEX);
        due(32, "from too few", x.copy(0, 4, 1, 0, 3), INDEX);
        due(32, "to too few", x.copy(0, 0, 1, 2, 3), INDEX);
        due(32, "unlike lanes", x.copy(0, 0, 2, 99, -1), CAST);
        due(32, "unlike lanes, n 0", x.copy(0, 0, 2, 0, 0), CAST);
        due(32, "from nothing", x.copy(3, 0, 2, 99, -1), NULL);
        due(32, "to nothing", x.copy(2, 99, 3, 0, -1), NULL);
        for (int v : EXTREMES) {
            due(32, "copy from " + v, x.copy(v, 0, 3, 0, 0), BAD);
            due(32, "copy to " + v, x.copy(3, 0, v, 0, 0), BAD);
        }
        due(32, "copy from 4", x.copy(4, 0, 3, 0, 0), BAD);
        due(32, "copy to 4", x.copy(3, 0, 4, 0, 0), BAD);
    }
}
