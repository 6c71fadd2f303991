/** For each sentence of promises 1 to 32 that names a boundary case, a test of its own. */
public final class EdgesTest {
    private static final int BAD = Check.BAD, NOT = Check.NOT, FULL = Check.FULL, NONE = Check.NONE;
    private static final int NULL = Check.NULL, CAST = Check.CAST, INDEX = Check.INDEX, SIZE = Check.SIZE;
    private static final int FAULT = Check.FAULT, MIN = Check.MIN, MAX = Check.MAX;
    private static final int LEAST = Check.LEAST, UTMOST = Check.UTMOST, SAME = Check.SAME, OTHER = Check.OTHER, EVEN = Check.EVEN;
    private static final int A = Check.pack(1, 0, 0, 0), NO_FACTOR = Check.pack(0, 0, 0, 0), GREATEST_FACTORS = Check.pack(9, 9, 9, 9);
    private static final int BYTES = 0, SHORTS = 1, INTS = 2, LONGS = 3;

    public static void main(String[] args) {
        made();
        added();
        looked();
        taped();
        counted();
        done();
        undone();
        ranges();
        shadows();
        chosen();
        odds();
        images();
        seen();
        films();
        sheets();
        items();
        copies();
        Check.end();
    }

    private static void due(String call, long got, long want) {
        Check.due(call, got, want);
    }

    private static void made() {
        Check.says("`DarkShadows()`: No constraints.", () -> {
            Used x = new Used();
            due("count(0)", x.count(0), 0);
            due("of(0, 0)", x.of(0, 0), BAD);
            due("hold(0)", x.hold(0), 0);
            due("hold(4095)", x.hold(4095), 0);
            due("drop(0)", x.drop(0), BAD);
            due("count(1)", x.count(1), 4);
            due("count(2)", x.count(2), 625);
            due("count(3)", x.count(3), 0);
            due("count(4)", x.count(4), 0);
            due("system()", x.system(), FAULT);
            due("type", x.type('1'), 1);
            Used other = new Used();
            due("add to one object", x.add(LEAST, A, 0), 0);
            due("another one has it not", other.count(0), 0);
        });
        Check.says("BAD = -1000001, NOT = -1000002, FULL = -1000003, NONE = -1000004, NULL = -1000011, CAST = -1000012, INDEX = -1000013, SIZE = -1000014;",
            () -> {
                due("BAD", DarkShadows.BAD, BAD);
                due("NOT", DarkShadows.NOT, NOT);
                due("FULL", DarkShadows.FULL, FULL);
                due("NONE", DarkShadows.NONE, NONE);
                due("NULL", DarkShadows.NULL, NULL);
                due("CAST", DarkShadows.CAST, CAST);
                due("INDEX", DarkShadows.INDEX, INDEX);
                due("SIZE", DarkShadows.SIZE, SIZE);
            });
    }

    private static void added() {
        Check.says("`int add(int kind, int factors, int rest)`: ADDED: its number.", () -> {
            Check.bounds("add of kind", LEAST, EVEN, (x, v) -> x.add(v, A, 0));
            Check.bounds("add of factors", 0, GREATEST_FACTORS, (x, v) -> x.add(LEAST, v, 0));
            Check.bounds("add of rest", -99, 99, (x, v) -> x.add(LEAST, A, v));
            Used x = Used.told("4;a>;a>;a>");
            x.drop(1);
            due("its number", x.add(LEAST, A, 0), 2);
        });
        Check.says("FACTORS are told by one number: each and 9, a the greatest (8000, 400, 20, 1).", () -> {
            Used x = new Used();
            int[] told = {0, 8000, 400, 20, 1, GREATEST_FACTORS, 18 * 8000, 18};
            int[][] factors = {{-9, -9, -9, -9}, {-8, -9, -9, -9}, {-9, -8, -9, -9}, {-9, -9, -8, -9}, {-9, -9, -9, -8}, {9, 9, 9, 9},
                {9, -9, -9, -9}, {-9, -9, -9, 9}};
            for (int k = 0; k < told.length; k++) {
                due("add of " + told[k], x.add(OTHER, told[k], -99 + k), k);
                Check.cells(x, k, factors[k][0], factors[k][1], factors[k][2], factors[k][3], -99 + k, OTHER);
            }
        });
        Check.says("BAD: also one above 9;", () -> {
            int[] weights = {8000, 400, 20, 1};
            for (int weight : weights) {
                Check.refused("add of 10 by " + weight, (x, v) -> x.add(LEAST, v, 0), NO_FACTOR + 10 * weight, BAD);
                Check.refused("add of 10 by " + weight + " alone", (x, v) -> x.add(LEAST, v, 0), 19 * weight, BAD);
                due("add of 9 by " + weight, new Used().add(LEAST, NO_FACTOR + 9 * weight, 0), 0);
            }
            Check.refused("add of 11 as a", (x, v) -> x.add(LEAST, v, 0), 160000, BAD);
            Check.refused("add of four 10", (x, v) -> x.add(LEAST, v, 0), 159999, BAD);
        });
        Check.says("FULL: 8.", () -> {
            Used x = Used.told("4;a>;a>;a>;a>;a>;a>;a>");
            due("the eighth", x.add(LEAST, A, 0), 7);
            due("a ninth", x.add(LEAST, A, 0), FULL);
            due("constraints", x.count(0), 8);
            due("may be undone", x.count(4), 1);
            due("drop", x.drop(0), 7);
            due("the eighth again", x.add(LEAST, A, 0), 7);
        });
    }

    private static void looked() {
        Check.says("Of a CONSTRAINT: 0 to 3 its FACTORS, 4 its REST, 5 its KIND. BAD.", () -> {
            Check.bounds("of constraint", 0, 2, (x, v) -> x.of(v, 0));
            Check.bounds("of what", 0, 5, (x, v) -> x.of(0, v));
            Check.cells(Used.told("4;a+2b-3c+4d-5%"), 0, 1, 2, -3, 4, -5, EVEN);
        });
        Check.says("The SUM of a CONSTRAINT at a POINT (each VARIABLE 0 .. 7). BAD.", () -> {
            Check.bounds("sum of constraint", 0, 2, (x, v) -> x.sum(v, 0));
            Check.bounds("sum at point", 0, 4095, (x, v) -> x.sum(0, v));
            Used x = Used.told("1;a+b+c+d-1>");
            due("beyond MOST", x.sum(0, 4095), 27);
            due("just beyond MOST", x.sum(0, Check.point(2, 0, 0, 0)), 1);
        });
        Check.says("CONSTRAINTS that HOLD at a POINT likewise (a set). BAD.", () -> {
            Check.bounds("hold at point", 0, 4095, (x, v) -> x.hold(v));
            Used x = Used.told("1;a-7=;a-1=;b-7=");
            due("beyond MOST", x.hold(4095), 1 + 4);
            due("none", x.hold(0), 0);
            due("of no constraints", new Used().hold(4095), 0);
        });
    }

    private static void taped() {
        Check.says("One letter more behind THE TAPE: how many it has. BAD: not 32 .. 126;", () -> {
            Check.bounds("type", 32, 126, (x, v) -> x.type(v));
            Used x = new Used();
            due("a first", x.type(32), 1);
            due("a second", x.type(126), 2);
            due("not as told", x.type(127), BAD);
            due("a third", x.type(32), 3);
        });
        Check.says("FULL: 130.", () -> {
            Used x = new Used();
            for (int i = 1; i <= 130; i++) {
                due("type", x.type(i == 1 ? '6' : ' '), i);
            }
            due("type", x.type('6'), FULL);
            due("again", x.type(' '), FULL);
            due("system", x.system(), 0);
            due("MOST", x.count(1), 6);
            due("type", x.type('6'), 1);
        });
        Check.says("THE TAPE, which is empty then (by a FAULT, too), is a SYSTEM: how many CONSTRAINTS. A FAULT (all else stays).", () -> {
            Used x = Used.told("3;a>;b<");
            x.call(4);
            due("behind a system", x.system(), FAULT);
            due("behind a FAULT", x.system(), FAULT);
            due("a FAULT late", x.tell("7;9a-9<;5b="), 2);
            x.turn(1);
            due("a FAULT late", x.tell("1;c#;d%;a>>"), FAULT - 10);
            due("the tape is empty", x.type('2'), 1);
            due("MOST", x.count(1), 7);
            due("constraints", x.count(0), 2);
            due("may be undone", x.count(4), 1);
            Check.cells(x, 0, 9, 0, 0, 0, -9, UTMOST);
            Check.cells(x, 1, 0, -5, 0, 0, 0, SAME);
            due("system", x.system(), 0);
            due("the tape is empty", x.type('2'), 1);
        });
    }

    private static void counted() {
        Check.says("0 CONSTRAINTS, 1 MOST, 2 POINTS, 3 FIRST (NONE), 4 what may be UNDONE. BAD.", () -> {
            Check.bounds("count", 0, 4, (x, v) -> x.count(v));
            Used x = Used.told("5;a-5=;b-5=;c-5=;d-5=");
            int[] one = {4, 5, 1, Check.point(5, 5, 5, 5), 0};
            for (int what = 0; what < 5; what++) {
                due("count(" + what + ")", x.count(what), one[what]);
            }
            x.call(4);
            int[] none = {4, 4, 0, NONE, 1};
            for (int what = 0; what < 5; what++) {
                due("count(" + what + ")", x.count(what), none[what]);
            }
        });
    }

    private static void done() {
        Check.says("DROPPED: how many there are. BAD.", () -> {
            Check.bounds("drop", 0, 2, (x, v) -> x.drop(v));
            Used x = Used.told("4;a>;b>");
            due("drop the last", x.drop(1), 1);
            due("drop it again", x.drop(1), BAD);
            due("drop the only one", x.drop(0), 0);
            due("drop of none", x.drop(0), BAD);
        });
        Check.says("CHANGED (what 0 .. 4): what it was. BAD; NOT: it is so.", EdgesTest::changed);
        Check.says("SHAPED: the KIND it was. BAD; NOT: it is so.", () -> {
            Check.bounds("shape of constraint", 0, 2, (x, v) -> x.shape(v, OTHER));
            Check.bounds("shape to", LEAST, EVEN, (x, v) -> x.shape(1, v));
            for (int kind = LEAST; kind <= EVEN; kind++) {
                Used x = Used.told("4;a" + "><=#%".charAt(kind));
                for (int other = LEAST; other <= EVEN; other++) {
                    if (other != kind) {
                        due("shape to " + other, x.shape(0, other), kind);
                        due("again", x.shape(0, other), NOT);
                        due("back", x.shape(0, kind), other);
                    }
                }
            }
        });
        Check.says("TURNED: POINTS then. BAD.", () -> {
            Check.bounds("turn", 0, 2, (x, v) -> x.turn(v));
            Used x = Used.told("4;a-4>");
            due("turn", x.turn(0), 625);
            due("turn back", x.turn(0), 125);
            due("turn of nothing", Used.told("4;0#").turn(0), 0);
            due("turn of none that has points", Used.told("4;a+1>").turn(0), 0);
        });
        Check.says("CALLED: what MOST was. BAD; NOT: it is so.", () -> {
            Check.bounds("call", 1, 7, (x, v) -> x.call(v));
            Used x = new Used();
            due("call 4 at first", x.call(4), NOT);
            due("call 7", x.call(7), 4);
            due("call 7 again", x.call(7), NOT);
            due("call 1", x.call(1), 7);
            due("call 0", x.call(0), BAD);
            due("call 8", x.call(8), BAD);
            due("MOST", x.count(1), 1);
            due("may be undone", x.count(4), 2);
        });
        Check.says("A DRIFT of n turns (1 .. 40; each may be UNDONE): POINTS then. BAD.", () -> {
            Check.bounds("drift", 1, 40, (x, v) -> x.drift(v));
            Used one = new Used();
            one.drift(40);
            Used other = new Used();
            for (int turn = 0; turn < 40; turn++) {
                other.drift(1);
            }
            due("40 turns are 40 of one", one.seed(0), other.seed(0));
            due("may be undone", one.count(4), 8);
            Used x = Used.told("4;a-9>");
            due("points, none", x.drift(1), x.count(2));
            due("may be undone", x.count(4), 1);
            due("drift of 2", x.drift(2), x.count(2));
            due("may be undone", x.count(4), 3);
        });
    }

    private static void changed() {
        Check.bounds("change of constraint", 0, 2, (x, v) -> x.change(v, 0, 5));
        Check.bounds("change of what", 0, 4, (x, v) -> x.change(0, v, 7));
        Check.bounds("change of what to -9", 0, 4, (x, v) -> x.change(1, v, -9));
        for (int what = 0; what < 4; what++) {
            int factor = what;
            Check.bounds("change of factor " + what + " to", -9, 9, (x, v) -> x.change(0, factor, v));
        }
        Check.bounds("change of rest to", -99, 99, (x, v) -> x.change(0, 4, v));
        Used x = Used.told("4;9a-9b+99>");
        due("a is so", x.change(0, 0, 9), NOT);
        due("b is so", x.change(0, 1, -9), NOT);
        due("c is so", x.change(0, 2, 0), NOT);
        due("the rest is so", x.change(0, 4, 99), NOT);
        due("may be undone", x.count(4), 0);
        due("a", x.change(0, 0, -9), 9);
        due("b", x.change(0, 1, 9), -9);
        due("c", x.change(0, 2, 1), 0);
        due("the rest", x.change(0, 4, -99), 99);
        due("may be undone", x.count(4), 4);
        Check.cells(x, 0, -9, 9, 1, 0, -99, LEAST);
    }

    private static void undone() {
        Check.says("UNDONE: how many more may be. NONE: none is known.", () -> {
            Used x = new Used();
            due("at first", x.undo(), NONE);
            for (int k = 0; k < 8; k++) {
                x.add(LEAST, A, k);
            }
            for (int left = 7; left >= 0; left--) {
                due("undo", x.undo(), left);
                due("constraints", x.count(0), left);
            }
            due("of none", x.undo(), NONE);
            due("constraints", x.count(0), 0);
            x.call(5);
            due("of one", x.undo(), 0);
            due("of none", x.undo(), NONE);
            due("MOST", x.count(1), 4);
        });
        Check.says("THE DRAW becomes v: what it was. BAD: below 0.", () -> {
            Check.bounds("seed", 0, MAX, (x, v) -> x.seed(v));
            Used x = new Used();
            due("at first", x.seed(0), 1);
            due("0", x.seed(MAX), 0);
            due("the greatest", x.seed(-1), BAD);
            due("the greatest", x.seed(5), MAX);
            due("may be undone", x.count(4), 0);
        });
    }

    private static void ranges() {
        Check.says("RANGE: the least (what 0), the greatest (1), VALUES (2; 0: there are none); NONE. BAD.", () -> {
            Check.bounds("range of", 0, 3, (x, v) -> x.range(v, 0));
            Check.bounds("range, what", 0, 2, (x, v) -> x.range(0, v));
            Used x = Used.told("7;a-9>");
            for (int v = 0; v < 4; v++) {
                due("least", x.range(v, 0), NONE);
                due("greatest", x.range(v, 1), NONE);
                due("values", x.range(v, 2), 0);
            }
            x.tell("7;a-7=");
            due("least", x.range(0, 0), 7);
            due("values", x.range(0, 2), 128);
            due("greatest", x.range(1, 1), 7);
        });
        Check.says("APART: the least (what 0), the greatest (1), how many (2; 0: none); NONE.", () -> {
            Check.bounds("apart of", 0, 3, (x, v) -> x.apart(v, v == 0 ? 1 : 0, 0));
            Check.bounds("apart of other", 0, 3, (x, v) -> x.apart(v == 0 ? 1 : 0, v, 0));
            Check.bounds("apart, what", 0, 2, (x, v) -> x.apart(0, 1, v));
            Used x = Used.told("7;a-9>");
            due("least", x.apart(2, 3, 0), NONE);
            due("greatest", x.apart(2, 3, 1), NONE);
            due("how many", x.apart(2, 3, 2), 0);
            x.tell("7;a=;b-7=");
            due("the greatest of all", x.apart(0, 1, 0), 7);
            due("the least of all", x.apart(1, 0, 1), -7);
        });
        Check.says("BAD: alike VARIABLES, too.", () -> {
            for (int variable = 0; variable < 4; variable++) {
                for (int what = 0; what < 3; what++) {
                    int which = what;
                    Check.refused("apart of " + variable + ", what " + what, (x, v) -> x.apart(v, v, which), variable, BAD);
                }
            }
        });
    }

    private static void shadows() {
        Check.says("Of a SHADOW (REAL 0, DARK 1) how many ROWS (k -1), of ROW k FACTOR i, its REST (i 4).", () -> {
            Check.bounds("row of", 0, 3, (x, v) -> x.row(v, 0, 0, 0));
            Check.bounds("row of shadow", 0, 1, (x, v) -> x.row(0, v, 0, 0));
            Check.bounds("row, i", 0, 4, (x, v) -> x.row(0, 0, 0, v));
            Check.bounds("how many rows of", 0, 3, (x, v) -> x.row(v, 0, -1, 0));
            Check.bounds("how many rows of shadow", 0, 1, (x, v) -> x.row(0, v, -1, 0));
            Used x = Used.told("7;3a-5b+9>;a-2>");
            // Of b: 3a + 9 by 1 and 7 less b by 5.
            Check.rows(x, 1, 0, Check.numbers(1, 0, 0, 0, -2), Check.numbers(1, 0, 0, 0, 3), Check.numbers(0, 0, 0, 0, 7));
        });
        Check.says("BAD: no such ROW, k below -1.", () -> {
            int[] many = {4, 5, 6, 4};
            for (int v = 0; v < 4; v++) {
                int variable = v;
                Check.bounds("row of REAL of " + v + ", k", -1, many[v] - 1, (x, k) -> x.row(variable, 0, k, 0));
                Check.bounds("row of DARK of " + v + ", k", -1, many[v] - 1, (x, k) -> x.row(variable, 1, k, 0));
            }
            due("a row alone", new Used().row(0, 0, 0, 4), 4);
            due("no other", new Used().row(0, 0, 1, 4), BAD);
        });
        Check.says("DEEP: in REAL (what 0), DARK (1); TRUE (2), GREY (3), LIT (4). BAD.", () -> {
            Check.bounds("deep of", 0, 3, (x, v) -> x.deep(v, 0));
            Check.bounds("deep, what", 0, 4, (x, v) -> x.deep(0, v));
            Used x = Used.told("7;3a-b-1>;3a-b-2<;c-1<");
            int[] many = {8 * 2 * 8, 0, 5 * 2 * 8, 8 * 2 * 8, 5 * 2 * 8};
            Used none = Used.told("7;-1>");
            for (int what = 0; what < 5; what++) {
                due("deep, what " + what, x.deep(0, what), many[what]);
                due("of none, what " + what, none.deep(3, what), 0);
            }
        });
    }

    private static void chosen() {
        Check.says("SPARE: which (what 0), how many (1); NONE. BAD.", () -> {
            Check.bounds("spare", 0, 1, (x, v) -> x.spare(v));
            due("which of none", new Used().spare(0), NONE);
            due("how many of none", new Used().spare(1), NONE);
            due("which of one", Used.told("4;a>").spare(0), 0);
            due("how many of one", Used.told("4;a>").spare(1), 625);
        });
        Check.says("STRETCH; NONE. BAD.", () -> {
            Check.bounds("stretch", 0, 2, (x, v) -> x.stretch(v));
            due("of no constraint", new Used().stretch(0), BAD);
            due("99", Used.told("1;-99>;a>").stretch(0), 99);
            due("-99", Used.told("1;99<;a>").stretch(0), -99);
            due("100", Used.told("1;-a-99>;a-1=").stretch(0), NONE);
            due("-100", Used.told("1;a+99<;a-1=").stretch(0), NONE);
            due("the others alone have none", Used.told("1;a>;b-2=").stretch(0), NONE);
            due("the other one", Used.told("1;a>;b-2=").stretch(1), 1);
        });
        Check.says("CORE (a set); NONE.", () -> {
            due("of no constraint", new Used().core(), NONE);
            due("of points", Used.told("7;a-7=").core(), NONE);
            due("the first", Used.told("7;a-9>;b>").core(), 1);
            due("the eighth", Used.told("7;b>;b>;b>;b>;b>;b>;b>;a-9>").core(), 128);
            due("all eight", Used.told("7;a#;a-1#;a-2#;a-3#;a-4#;a-5#;a-6#;a-7#").core(), 255);
        });
    }

    private static void odds() {
        Check.says("ASKED: above (what 0), below (1).", () -> {
            Check.bounds("asked of point", 0, Check.point(5, 5, 5, 5), (x, v) -> x.asked(v, 0, 0));
            Check.bounds("asked by", 0, 10, (x, v) -> x.asked(0, v, 0));
            Check.bounds("asked, what", 0, 1, (x, v) -> x.asked(0, 5, v));
            Used x = Used.told("4;a>;b-1>;c-1>");
            due("above", x.asked(0, 5, 0), 1);
            due("below", x.asked(0, 5, 1), 4);
            due("above, by 10", x.asked(0, 10, 0), 0);
            due("below, by 10", x.asked(0, 10, 1), 1);
            due("above, by 0", x.asked(0, 0, 0), 1);
            due("below, by 0", x.asked(0, 0, 1), 1);
        });
        Check.says("BAD: also a VARIABLE above MOST.", () -> {
            int[] weights = {512, 64, 8, 1};
            for (int weight : weights) {
                for (int most = 1; most <= 6; most++) {
                    Used x = Used.told("" + most);
                    due("at MOST " + most + " by " + weight, x.asked(most * weight, 5, 1), 1);
                    due("above MOST " + most + " by " + weight, x.asked((most + 1) * weight, 5, 1), BAD);
                    due("far above MOST " + most + " by " + weight, x.asked(7 * weight, 5, 1), BAD);
                }
                Check.refused("asked above MOST by " + weight, (x, v) -> x.asked(v, 0, 0), 6 * weight, BAD);
            }
            due("4095 by MOST 7", Used.told("7").asked(4095, 0, 0), 1);
            due("4096 by MOST 7", Used.told("7").asked(4096, 0, 0), BAD);
            due("-1 by MOST 7", Used.told("7").asked(-1, 0, 0), BAD);
            due("4095 by MOST 6", Used.told("6").asked(4095, 0, 0), BAD);
        });
    }

    private static void images() {
        Check.says("All but SHEETS, THE TAPE is kept as an IMAGE (what may be UNDONE, too): 1.", () -> {
            Used x = Used.told("4;0>");
            for (int k = 1; k <= 9; k++) {
                x.change(0, 4, k);
            }
            x.seed(5);
            x.typeAll("7");
            x.sheet(0, BYTES, 3);
            due("image", x.image(), 1);
            x.sheet(0, LONGS, 5);
            x.typeAll(" ");
            x.drop(0);
            x.call(1);
            x.seed(6);
            x.undo();
            x.undo();
            x.undo();
            due("restore", x.restore(), 1);
            due("rest", x.of(0, 4), 9);
            due("MOST", x.count(1), 4);
            due("may be undone", x.count(4), 8);
            due("THE DRAW", x.seed(6), 5);
            for (int left = 7; left >= 0; left--) {
                due("undo", x.undo(), left);
                due("rest", x.of(0, 4), left + 1);
            }
            due("undo of none", x.undo(), NONE);
            due("THE TAPE stays", x.type(' '), 3);
            due("SHEETS stay", x.clear(0), 5);
        });
        Check.says("All is as it was then: 1. NONE: there is none.", () -> {
            Used x = new Used();
            due("restore of none", x.restore(), NONE);
            due("an image of a new object", x.image(), 1);
            x.add(LEAST, A, -9);
            x.call(7);
            x.seed(2);
            due("restore", x.restore(), 1);
            due("constraints", x.count(0), 0);
            due("points", x.count(2), 625);
            due("may be undone", x.count(4), 0);
            due("THE DRAW", x.seed(0), 1);
            due("restore again", x.restore(), 1);
            due("THE DRAW", x.seed(0), 1);
            x.add(LEAST, A, -9);
            due("a later image", x.image(), 1);
            due("undo", x.undo(), 0);
            due("restore", x.restore(), 1);
            due("constraints", x.count(0), 1);
            due("points", x.count(2), 0);
            due("may be undone", x.count(4), 1);
            x.change(0, 4, 0);
            x.undo();
            x.undo();
            x.call(1);
            due("restore once more", x.restore(), 1);
            due("rest", x.of(0, 4), -9);
            due("MOST", x.count(1), 4);
        });
    }

    private static void seen() {
        Check.says("SEEN of a CONSTRAINT by n items of a SHEET taken as a row of a LANE, from item i on: KINDS by which it HOLDS at all (what 0), at none (1). BAD; NULL; CAST; INDEX;",
            () -> {
                Check.bounds("seen of constraint", 0, 2, (x, v) -> x.seen(v, 0, 0, 0, 1, 0));
                Check.bounds("seen of sheet", 0, 3, (x, v) -> x.seen(0, v, 0, 0, 1, 0));
                Check.bounds("seen of lane", 0, 3, (x, v) -> x.seen(0, 0, v, 0, 1, 0));
                Check.bounds("seen of n", 1, 8, (x, v) -> x.seen(0, 0, 0, 0, v, 0));
                Check.bounds("seen, what", 0, 1, (x, v) -> x.seen(0, 0, 0, 0, 1, v));
                for (int lane = 0; lane < 4; lane++) {
                    Used x = Used.told("4;a>");
                    due("of nothing", x.seen(0, 2, lane, 0, 1, 0), NULL);
                    x.sheet(2, lane, 8);
                    due("of another lane", x.seen(0, 2, 3 - lane, 0, 1, 0), CAST);
                    due("eight", x.seen(0, 2, lane, 0, 8, 0), 1 + 2 + 4 + 16);
                    due("eight from 1 on", x.seen(0, 2, lane, 1, 8, 0), INDEX);
                    due("the last", x.seen(0, 2, lane, 7, 1, 0), 1 + 2 + 4 + 16);
                    due("one more", x.seen(0, 2, lane, 7, 2, 0), INDEX);
                    due("from the end", x.seen(0, 2, lane, 8, 1, 0), INDEX);
                    due("from -1", x.seen(0, 2, lane, -1, 2, 0), INDEX);
                    due("from far", x.seen(0, 2, lane, MAX, 8, 0), INDEX);
                    due("from far below", x.seen(0, 2, lane, MIN, 8, 0), INDEX);
                    x.sheet(2, lane, 0);
                    due("of no items", x.seen(0, 2, lane, 0, 1, 0), INDEX);
                }
            });
        Check.says("NOT: an item is no POINT (0 .. 4095).", () -> {
            Used x = Used.told("1;d-7>");
            x.sheet(0, INTS, 8);
            for (int i = 0; i < 8; i++) {
                x.item(0, INTS, i, 4095);
            }
            due("4095, beyond MOST", x.seen(0, 0, INTS, 0, 8, 0), 1 + 2 + 4 + 16);
            due("at none", x.seen(0, 0, INTS, 0, 8, 1), 8);
            for (int at : new int[] {0, 7}) {
                for (int v : new int[] {-1, 4096, MAX, MIN}) {
                    x.item(0, INTS, at, v);
                    due("at " + at + " " + v, x.seen(0, 0, INTS, 0, 8, 0), NOT);
                    due("at none, at " + at + " " + v, x.seen(0, 0, INTS, 0, 8, 1), NOT);
                    due("beside it", x.seen(0, 0, INTS, 1, 6, 1), 8);
                }
                x.item(0, INTS, at, 0);
                due("0", x.seen(0, 0, INTS, at, 1, 0), 2 + 8);
                x.item(0, INTS, at, 4095);
            }
            x.sheet(1, LONGS, 1);
            for (long v : new long[] {4096, -1, 1L << 32, (1L << 32) + 1, Long.MIN_VALUE, Long.MAX_VALUE, -4096}) {
                x.item(1, LONGS, 0, v);
                due("long " + v, x.seen(0, 1, LONGS, 0, 1, 0), NOT);
            }
        });
    }

    private static void films() {
        Check.says("The first n (1 .. 24) POINTS that are FULFILLED, rising, an item each, its lowest bits (-1: there are no more), come to a SHEET likewise: n.", () -> {
            Check.bounds("film of n", 1, 24, (x, v) -> x.film(v, 0, 0, 0));
            Check.bounds("film to sheet", 0, 3, (x, v) -> x.film(1, v, 0, 0));
            Check.bounds("film to lane", 0, 3, (x, v) -> x.film(1, 0, v, 0));
            filmOfTwo();
            filmOf24();
            filmOfLowestBits();
        });
        Check.says("come to a SHEET likewise: n. BAD; NULL; CAST; INDEX.", () -> {
            for (int lane = 0; lane < 4; lane++) {
                Used x = new Used();
                due("to nothing", x.film(1, 1, lane, 0), NULL);
                x.sheet(1, lane, 24);
                due("to another lane", x.film(1, 1, 3 - lane, 0), CAST);
                due("all", x.film(24, 1, lane, 0), 24);
                due("one beyond", x.film(24, 1, lane, 1), INDEX);
                due("the last", x.film(1, 1, lane, 23), 1);
                due("from the end", x.film(1, 1, lane, 24), INDEX);
                due("from -1", x.film(1, 1, lane, -1), INDEX);
                due("from far", x.film(24, 1, lane, MAX), INDEX);
                due("from far below", x.film(24, 1, lane, MIN), INDEX);
                x.sheet(1, lane, 0);
                due("to no items", x.film(1, 1, lane, 0), INDEX);
            }
        });
    }

    private static void filmOfTwo() {
        for (int n = 1; n <= 4; n++) {
            Used x = Used.told("7;a-7=;b-7=;c-7=;d-6>");
            x.sheet(0, SHORTS, 6);
            due("film", x.film(n, 0, SHORTS, 1), n);
            Check.lookAtItems(x);
            Check.items(x, 0, SHORTS, 0, 0, 4094, n > 1 ? 4095 : 0, n > 2 ? NOT : 0, n > 3 ? NOT : 0, 0);
        }
        Used first = Used.told("1;a=;b=;c=");
        first.sheet(0, BYTES, 3);
        due("film from 0 on", first.film(3, 0, BYTES, 0), 3);
        Check.lookAtItems(first);
        Check.items(first, 0, BYTES, 0, 0, 1, NOT);
        Used none = Used.told("7;a-9>");
        none.sheet(0, SHORTS, 3);
        due("film of none", none.film(2, 0, SHORTS, 1), 2);
        Check.lookAtItems(none);
        Check.items(none, 0, SHORTS, 0, 0, NOT, NOT);
    }

    private static void filmOf24() {
        Used x = Used.told("4;a-1>");
        x.sheet(3, LONGS, 24);
        due("film", x.film(24, 3, LONGS, 0), 24);
        Check.lookAtItems(x);
        Check.items(x, 3, LONGS, 0, 512, 513, 514, 515, 516, 520, 521, 522, 523, 524, 528, 529, 530, 531, 532, 536, 537, 538, 539, 540,
            544, 545, 546, 547);
    }

    private static void filmOfLowestBits() {
        int[] points = {127, 128, 255, 256, 383, 4095};
        int[] bytes = {127, NOT, NOT, 0, 127, NOT};
        for (int k = 0; k < points.length; k++) {
            for (int lane = 0; lane < 4; lane++) {
                int p = points[k];
                Used x = Used.told("7;a-" + p / 512 + "=;b-" + p / 64 % 8 + "=;c-" + p / 8 % 8 + "=;d-" + p % 8 + "=");
                x.sheet(0, lane, 1);
                due("film", x.film(1, 0, lane, 0), 1);
                Check.lookAtItems(x);
                Check.items(x, 0, lane, 0, lane == BYTES ? bytes[k] : p);
            }
        }
    }

    private static void sheets() {
        Check.says("A SHEET holds a new row of a LANE: n. BAD: also n above 24;", () -> {
            Check.bounds("sheet", 0, 3, (x, v) -> x.sheet(v, 0, 1));
            Check.bounds("sheet of lane", 0, 3, (x, v) -> x.sheet(0, v, 1));
            Check.refused("sheet of 25", (x, v) -> x.sheet(0, 0, v), 25, BAD);
            Check.refused("sheet of many", (x, v) -> x.sheet(0, 0, v), MAX, BAD);
            Used x = new Used();
            for (int n : new int[] {24, 0, 1, 23}) {
                due("sheet of " + n, x.sheet(2, INTS, n), n);
                due("no item " + n, x.item(2, INTS, n, 0), INDEX);
                due("clear", x.clear(2), n);
            }
            x.sheet(1, BYTES, 3);
            for (int i = 0; i < 3; i++) {
                x.item(1, BYTES, i, 7 - i);
            }
            due("anew", x.sheet(1, SHORTS, 24), 24);
            Check.lookAtItems(x);
            Check.items(x, 1, SHORTS, 0, 0, 0, 0, 0);
            Check.items(x, 1, SHORTS, 23, 0);
        });
        Check.says("SIZE: n below 0.", () -> {
            Check.refused("sheet of -1", (x, v) -> x.sheet(1, 3, v), -1, SIZE);
            Check.refused("sheet of the least", (x, v) -> x.sheet(1, 3, v), MIN, SIZE);
            Check.refused("sheet of -1 of what holds nothing", (x, v) -> x.sheet(3, 3, v), -1, SIZE);
            due("BAD is ahead of it", new Used().sheet(-1, 0, -1), BAD);
            due("BAD is ahead of it", new Used().sheet(0, -1, -1), BAD);
        });
        Check.says("A SHEET holds nothing: how many items it had. BAD; NULL.", () -> {
            Check.bounds("clear", 0, 3, (x, v) -> x.clear(v));
            for (int sheet = 0; sheet < 4; sheet++) {
                Used x = new Used();
                due("at first", x.clear(sheet), NULL);
                x.sheet(sheet, LONGS, 24);
                due("of 24", x.clear(sheet), 24);
                due("again", x.clear(sheet), NULL);
                due("no item", x.item(sheet, LONGS, 0, 0), NULL);
                x.sheet(sheet, LONGS, 0);
                due("of 0", x.clear(sheet), 0);
                due("again", x.clear(sheet), NULL);
                x.sheet(3 - sheet, BYTES, 2);
                due("of another one", x.clear(sheet), NULL);
            }
        });
    }

    private static void items() {
        Check.says("Item i of a SHEET, taken as a row of a LANE, becomes v, its lowest bits: 1.", () -> {
            long[][] fits = {{0, 127, 256, 256 + 127, -256, 1L << 62}, {0, 4095, 65536 + 4095, -65536, 1L << 62, 127},
                {0, 4095, (1L << 32) + 4095, -(1L << 32), 1L << 62, 127}, {0, 4095, 1, 8, 64, 512}};
            int[][] points = {{0, 127, 0, 127, 0, 0}, {0, 4095, 4095, 0, 0, 127}, {0, 4095, 4095, 0, 0, 127}, {0, 4095, 1, 8, 64, 512}};
            long[][] others = {{128, 255, -1, -128, 4095}, {4096, 32767, 32768, 65535, -1}, {4096, 1L << 31, MAX, MIN, -1},
                {4096, 1L << 32, Long.MAX_VALUE, Long.MIN_VALUE, -1}};
            for (int lane = 0; lane < 4; lane++) {
                Used x = new Used();
                x.sheet(3, lane, 11);
                for (int i = 0; i < 6; i++) {
                    due("item", x.item(3, lane, i, fits[lane][i]), 1);
                }
                for (int i = 0; i < 5; i++) {
                    due("item", x.item(3, lane, i + 6, others[lane][i]), 1);
                }
                Check.lookAtItems(x);
                Check.items(x, 3, lane, 0, points[lane]);
                Check.items(x, 3, lane, 6, NOT, NOT, NOT, NOT, NOT);
            }
        });
        Check.says("becomes v, its lowest bits: 1. BAD; NULL; CAST; INDEX.", () -> {
            Check.bounds("item of sheet", 0, 3, (x, v) -> x.item(v, 0, 0, 0));
            Check.bounds("item of lane", 0, 3, (x, v) -> x.item(0, v, 0, 0));
            for (int lane = 0; lane < 4; lane++) {
                Used x = new Used();
                due("of nothing", x.item(0, lane, 0, 5), NULL);
                x.sheet(0, lane, 24);
                due("of another lane", x.item(0, 3 - lane, 0, 5), CAST);
                due("the first", x.item(0, lane, 0, 5), 1);
                due("the last", x.item(0, lane, 23, 6), 1);
                due("one beyond", x.item(0, lane, 24, 5), INDEX);
                due("one below", x.item(0, lane, -1, 5), INDEX);
                due("far", x.item(0, lane, MAX, 5), INDEX);
                due("far below", x.item(0, lane, MIN, 5), INDEX);
                // Beyond the row of one sheet another one's may lie.
                x.sheet(1, lane, 24);
                Check.lookAtItems(x);
                Check.items(x, 0, lane, 0, 5, 0);
                Check.items(x, 0, lane, 22, 0, 6);
                Check.items(x, 1, lane, 0, 0, 0);
                x.sheet(0, lane, 0);
                due("of no items", x.item(0, lane, 0, 5), INDEX);
            }
        });
    }

    /** Sheet 0 holds 1 .. 6, sheet 1 11 .. 14, sheet 2 is of another lane, sheet 3 holds nothing. */
    private static Used filled(int lane) {
        Used x = new Used();
        x.sheet(0, lane, 6);
        for (int i = 0; i < 6; i++) {
            x.item(0, lane, i, i + 1);
        }
        x.sheet(1, lane, 4);
        for (int i = 0; i < 4; i++) {
            x.item(1, lane, i, i + 11);
        }
        x.sheet(2, (lane + 1) % 4, 6);
        return x;
    }

    private static void copies() {
        Check.says("n items of a SHEET from i on come to another one (or the same) from j on,", () -> {
            Check.bounds("copy from", 0, 3, (x, v) -> x.copy(v, 0, 0, 0, 1));
            Check.bounds("copy to", 0, 3, (x, v) -> x.copy(0, 0, v, 0, 1));
            for (int lane = 0; lane < 4; lane++) {
                Used x = filled(lane);
                due("to the end", x.copy(0, 0, 1, 2, 2), 2);
                due("from the end", x.copy(0, 5, 1, 0, 1), 1);
                due("all", x.copy(1, 0, 0, 2, 4), 4);
                Check.lookAtItems(x);
                Check.items(x, 1, lane, 0, 6, 12, 1, 2);
                Check.items(x, 0, lane, 0, 1, 2, 6, 12, 1, 2);
            }
        });
        Check.says("as if all were taken ahead: n.", () -> {
            int[][] dues = {{1, 1, 2, 3, 4, 5}, {2, 3, 4, 5, 6, 6}, {1, 2, 3, 1, 2, 3}, {5, 6, 3, 4, 5, 6}, {1, 2, 3, 4, 5, 6}};
            int[][] calls = {{0, 1, 5}, {1, 0, 5}, {0, 3, 3}, {4, 0, 2}, {0, 0, 6}};
            for (int k = 0; k < calls.length; k++) {
                Used x = filled(SHORTS);
                due("copy", x.copy(0, calls[k][0], 0, calls[k][1], calls[k][2]), calls[k][2]);
                Check.lookAtItems(x);
                Check.items(x, 0, SHORTS, 0, dues[k]);
            }
        });
        Check.says("BAD; NULL (either); CAST: of unlike LANES;", () -> {
            Used x = filled(BYTES);
            due("from nothing", x.copy(3, 0, 0, 0, 1), NULL);
            due("to nothing", x.copy(0, 0, 3, 0, 1), NULL);
            due("nothing to nothing", x.copy(3, 0, 3, 0, 0), NULL);
            due("n 0 to nothing", x.copy(0, 0, 3, 0, 0), NULL);
            due("to another lane", x.copy(0, 0, 2, 0, 1), CAST);
            due("from another lane", x.copy(2, 0, 0, 0, 1), CAST);
            due("n 0 to another lane", x.copy(0, 0, 2, 0, 0), CAST);
            x.sheet(2, BYTES, 0);
            due("n 0 to no items", x.copy(0, 0, 2, 0, 0), 0);
            due("n 1 to no items", x.copy(0, 0, 2, 0, 1), INDEX);
            due("n 1 from no items", x.copy(2, 0, 0, 0, 1), INDEX);
        });
        Check.says("INDEX (n below 0, too; with n 0, too, if i or j is above how many there are).", () -> {
            int[][] beyond = {{0, 0, -1}, {0, 0, MIN}, {6, 4, -1}, {7, 0, 0}, {0, 5, 0}, {7, 5, 0}, {MAX, 0, 0}, {0, MAX, 0}, {-1, 0, 0}, {0, -1, 0},
                {-1, 0, 1}, {0, -1, 1}, {3, 0, 4}, {0, 1, 4}, {6, 0, 1}, {0, 4, 1}, {0, 0, 5}, {0, 0, MAX}, {MAX, 0, MAX}, {0, MAX, MAX}, {MIN, 0, 1},
                {0, MIN, 1}, {MIN, MIN, MIN}, {5, 0, MAX}, {MAX, MAX, 1}, {1, 1, MIN}};
            Used x = filled(LONGS);
            for (int[] one : beyond) {
                due("copy(0, " + one[0] + ", 1, " + one[1] + ", " + one[2] + ")", x.copy(0, one[0], 1, one[1], one[2]), INDEX);
            }
            due("n 0 at the ends", x.copy(0, 6, 1, 4, 0), 0);
            due("n 0 at the starts", x.copy(0, 0, 1, 0, 0), 0);
            due("n 0 at one end", x.copy(0, 6, 0, 0, 0), 0);
            Check.lookAtItems(x);
            Check.items(x, 0, LONGS, 0, 1, 2, 3, 4, 5, 6);
            Check.items(x, 1, LONGS, 0, 11, 12, 13, 14);
        });
    }
}
