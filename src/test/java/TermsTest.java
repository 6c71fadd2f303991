import java.math.BigInteger;

/** For each sentence of the document's 'Terms' that names a boundary case, a test of its own. */
public final class TermsTest {
    private static final int BAD = Check.BAD, NOT = Check.NOT, FULL = Check.FULL, NONE = Check.NONE;
    private static final int NULL = Check.NULL, CAST = Check.CAST, INDEX = Check.INDEX, SIZE = Check.SIZE;
    private static final int FAULT = Check.FAULT, MIN = Check.MIN, MAX = Check.MAX;
    private static final int LEAST = Check.LEAST, UTMOST = Check.UTMOST, SAME = Check.SAME, OTHER = Check.OTHER, EVEN = Check.EVEN;
    private static final BigInteger BITS_31 = BigInteger.ONE.shiftLeft(31);
    private static final int A = Check.pack(1, 0, 0, 0), NO_FACTOR = Check.pack(0, 0, 0, 0);

    public static void main(String[] args) {
        refusals();
        variables();
        constraints();
        kinds();
        acts();
        points();
        rows();
        shadows();
        reducedRows();
        depths();
        spares();
        stretches();
        cores();
        odds();
        seen();
        undone();
        drifts();
        systems();
        terms();
        faults();
        sheets();
        Check.end();
    }

    private static void due(String call, long got, long want) {
        Check.due(call, got, want);
    }

    private static void refusals() {
        Check.says("An object is used for at most 512 calls after it has been made", TermsTest::lastCalls);
        Check.says("Answers below 0, of several BAD ahead of all others, then the first that a call names, are refusals", TermsTest::badFirst);
        Check.says("What is refused changes nothing, but as told.", TermsTest::refusedCalls);
        Check.says("(NULL, CAST, INDEX, SIZE in this order)", TermsTest::machineOrder);
        Check.says("Sets are bits.", () -> {
            due("hold", Used.told("7;a-7>;a-7<;a-7=;a-7#;a-7%;b-7>;c>;d-7=").hold(4095), 1 + 2 + 4 + 16 + 32 + 64 + 128);
            due("range", Used.told("7;a-7=").range(0, 2), 128);
            due("range", Used.told("7;a=").range(0, 2), 1);
        });
    }

    private static void lastCalls() {
        Used x = new Used();
        for (int k = 0; k < 255; k++) {
            due("call(5)", x.call(5), 4);
            due("call(4)", x.call(4), 5);
        }
        due("undo()", x.undo(), 7);
        due("call 512", x.count(2), 1296);
        due("calls", x.calls(), 512);
        Used y = new Used();
        for (int k = 0; k < 120; k++) {
            due("sheet", y.sheet(k % 4, k % 3, 24), 24);
            due("film", y.film(24, k % 4, k % 3, 0), 24);
            due("image", y.image(), 1);
            due("restore", y.restore(), 1);
        }
        for (int k = 0; k < 30; k++) {
            due("type", y.type('4'), k + 1);
        }
        due("system", y.system(), FAULT - 1);
        due("call 512", y.clear(3), 24);
        due("calls", y.calls(), 512);
    }

    private static void badFirst() {
        Used full = Used.told("4;a>;a>;a>;a>;a>;a>;a>;a>");
        due("add of kind 5 to eight", full.add(5, 0, 0), BAD);
        due("add of factors -1 to eight", full.add(0, -1, 0), BAD);
        due("add of rest 100 to eight", full.add(0, 0, 100), BAD);
        due("type of 31 behind 130", new Used().typeAll("4".repeat(130)).type(31), BAD);
        due("range of what 3 without points", Used.told("4;a-9>").range(0, 3), BAD);
        due("apart of like ones without points", Used.told("4;a-9>").apart(1, 1, 0), BAD);
        due("spare of what 2 without constraints", new Used().spare(2), BAD);
        due("sheet of lane 4, n -1", new Used().sheet(0, 4, -1), BAD);
        due("sheet 4, n -1", new Used().sheet(4, 0, -1), BAD);
        Used x = Used.told("4;a>");
        due("seen of constraint 1 at nothing", x.seen(1, 0, 0, 0, 1, 0), BAD);
        due("seen of lane 4 at nothing", x.seen(0, 0, 4, 0, 1, 0), BAD);
        due("seen of n 0 at nothing", x.seen(0, 0, 0, 0, 0, 0), BAD);
        due("seen of n 9 at nothing", x.seen(0, 0, 0, 0, 9, 0), BAD);
        due("seen of what 2 at nothing", x.seen(0, 0, 0, 0, 1, 2), BAD);
        due("film of n 0 at nothing", x.film(0, 0, 0, 0), BAD);
        due("film of n 25 at nothing", x.film(25, 0, 0, 0), BAD);
        due("film of lane 4 at nothing", x.film(1, 0, 4, 0), BAD);
        due("item of lane 4 at nothing", x.item(0, 4, 0, 0), BAD);
        due("copy from 4 to nothing", x.copy(4, 0, 0, 0, -1), BAD);
        due("copy of nothing to 4", x.copy(0, 0, 4, 0, -1), BAD);
        x.sheet(0, 1, 1);
        due("seen of n 9 of bytes, beyond", x.seen(0, 0, 0, 5, 9, 0), BAD);
        due("film of n 25 of bytes, beyond", x.film(25, 0, 0, 5), BAD);
        x.item(0, 1, 0, -1);
        due("seen of what 2 at no point", x.seen(0, 0, 1, 0, 1, 2), BAD);
        due("seen beyond no point", x.seen(0, 0, 1, 0, 2, 0), INDEX);
        due("seen at no point", x.seen(0, 0, 1, 0, 1, 0), NOT);
    }

    private static Used fullOfConstraints() {
        Used x = Check.rich();
        for (int k = 3; k < 8; k++) {
            x.add(LEAST, A, k);
        }
        return x;
    }

    private static Used fullTape() {
        return Check.rich().typeAll(" ".repeat(127));
    }

    private static Used nothingToUndo() {
        return Used.told("4;a>").typeAll("2;b");
    }

    private static void refusedCalls() {
        Check.refused("add, FULL", TermsTest::fullOfConstraints, (x, v) -> x.add(LEAST, A, 0), FULL);
        Check.refused("type, FULL", TermsTest::fullTape, (x, v) -> x.type('a'), FULL);
        Check.refused("undo, NONE", TermsTest::nothingToUndo, (x, v) -> x.undo(), NONE);
        Check.refused("restore, NONE", TermsTest::nothingToUndo, (x, v) -> x.restore(), NONE);
        Check.refused("change, NOT", (x, v) -> x.change(0, 0, v), 2, NOT);
        Check.refused("shape, NOT", (x, v) -> x.shape(0, v), EVEN, NOT);
        Check.refused("call, NOT", (x, v) -> x.call(v), 5, NOT);
        Check.refused("seen, NULL", (x, v) -> x.seen(0, v, 0, 0, 1, 0), 3, NULL);
        Check.refused("seen, CAST", (x, v) -> x.seen(0, v, 0, 0, 1, 0), 1, CAST);
        Check.refused("seen, INDEX", (x, v) -> x.seen(0, 0, 0, v, 2, 0), 1, INDEX);
        Check.refused("film, NULL", (x, v) -> x.film(1, v, 0, 0), 3, NULL);
        Check.refused("film, CAST", (x, v) -> x.film(1, v, 0, 0), 1, CAST);
        Check.refused("film, INDEX", (x, v) -> x.film(2, 0, 0, v), 1, INDEX);
        Check.refused("film of 3 to 2, INDEX", (x, v) -> x.film(v, 0, 0, 0), 3, INDEX);
        Check.refused("sheet, SIZE", (x, v) -> x.sheet(0, 0, v), -1, SIZE);
        Check.refused("sheet of another lane, SIZE", (x, v) -> x.sheet(0, 3, v), MIN, SIZE);
        Check.refused("sheet, BAD", (x, v) -> x.sheet(0, 3, v), 25, BAD);
        Check.refused("clear, NULL", (x, v) -> x.clear(v), 3, NULL);
        Check.refused("item, NULL", (x, v) -> x.item(v, 0, 0, 3), 3, NULL);
        Check.refused("item, CAST", (x, v) -> x.item(v, 0, 0, 3), 1, CAST);
        Check.refused("item, INDEX", (x, v) -> x.item(0, 0, v, 3), 2, INDEX);
        Check.refused("copy, NULL", (x, v) -> x.copy(0, 0, v, 0, 1), 3, NULL);
        Check.refused("copy, CAST", (x, v) -> x.copy(0, 0, v, 0, 1), 1, CAST);
        Check.refused("copy, INDEX", (x, v) -> x.copy(0, 0, 0, v, 2), 1, INDEX);
        Check.refused("copy, INDEX", (x, v) -> x.copy(0, v, 0, 0, 2), 1, INDEX);
        // By a FAULT THE TAPE is emptied and all else stays.
        Used x = Check.rich();
        due("system, a FAULT", x.system(), FAULT - 3);
        due("type", x.type('2'), 1);
        x.type(';');
        x.type('a');
        Check.alike("system, a FAULT", Check.state(x), Check.state(Check.rich()));
    }

    private static void machineOrder() {
        Used x = Used.told("4;a>");
        x.sheet(1, 1, 1);
        x.sheet(2, 0, 1);
        due("seen at nothing, beyond", x.seen(0, 0, 0, -1, 1, 0), NULL);
        due("seen of bytes, beyond", x.seen(0, 1, 0, 1, 1, 0), CAST);
        due("film at nothing, beyond", x.film(1, 0, 0, -1), NULL);
        due("film of bytes, beyond", x.film(2, 1, 0, 0), CAST);
        due("item at nothing, beyond", x.item(0, 0, 1, 0), NULL);
        due("item of bytes, beyond", x.item(1, 0, 1, 0), CAST);
        due("copy of nothing, beyond", x.copy(0, 0, 1, 0, -1), NULL);
        due("copy to nothing, beyond", x.copy(1, 5, 0, 0, 1), NULL);
        due("copy to bytes, beyond", x.copy(1, 0, 2, 0, -1), CAST);
        due("copy to bytes, far beyond", x.copy(1, 9, 2, 9, 9), CAST);
    }

    private static void variables() {
        Check.says("VARIABLES 0 .. 3 (a, b, c, d) are whole numbers 0 .. MOST (1 .. 7; 4 at first).", () -> {
            due("MOST at first", new Used().count(1), 4);
            int[] points = {16, 81, 256, 625, 1296, 2401, 4096};
            for (int most = 1; most <= 7; most++) {
                Used x = Used.told("" + most);
                due("points of " + most, x.count(2), points[most - 1]);
                for (int v = 0; v < 4; v++) {
                    due("least of " + v, x.range(v, 0), 0);
                    due("greatest of " + v, x.range(v, 1), most);
                    due("values of " + v, x.range(v, 2), (2 << most) - 1);
                }
            }
        });
        Check.says("A POINT is told as a number: d, 8 times c, 64 times b, 512 times a.", () -> {
            Used x = Used.told("7;a-2b+3c-4d>");
            due("d", x.sum(0, 1), -4);
            due("d 7", x.sum(0, 7), -28);
            due("c", x.sum(0, 8), 3);
            due("c 7", x.sum(0, 56), 21);
            due("b", x.sum(0, 64), -2);
            due("b 7", x.sum(0, 448), -14);
            due("a", x.sum(0, 512), 1);
            due("a 7", x.sum(0, 3584), 7);
            due("none", x.sum(0, 0), 0);
            due("all", x.sum(0, 4095), -14);
            x.tell("7;a-1=;b-2=;c-3=;d-4=");
            due("first", x.count(3), 512 + 2 * 64 + 3 * 8 + 4);
        });
    }

    private static void constraints() {
        Check.says("CONSTRAINTS 0 .. 7, as they come", () -> {
            Used x = new Used();
            due("of(0, 4) of none", x.of(0, 4), BAD);
            for (int k = 0; k < 8; k++) {
                due("add", x.add(EVEN, NO_FACTOR, k), k);
                due("of(k + 1, 4)", x.of(k + 1, 4), BAD);
            }
            due("a ninth", x.add(EVEN, NO_FACTOR, 0), FULL);
            for (int k = 0; k < 8; k++) {
                due("of(" + k + ", 4)", x.of(k, 4), k);
            }
            due("of(-1, 4)", x.of(-1, 4), BAD);
            due("of(8, 4)", x.of(8, 4), BAD);
        });
        Check.says("have a FACTOR (-9 .. 9) of each VARIABLE, a REST (-99 .. 99), and a KIND", () -> {
            Used x = new Used();
            x.add(LEAST, Check.pack(-9, 9, -9, 9), -99);
            x.add(EVEN, Check.pack(9, -9, 9, -9), 99);
            Check.cells(x, 0, -9, 9, -9, 9, -99, 0);
            Check.cells(x, 1, 9, -9, 9, -9, 99, 4);
            for (int v = 0; v < 4; v++) {
                due("factor -10", x.change(0, v, -10), BAD);
                due("factor 10", x.change(0, v, 10), BAD);
            }
            due("rest -100", x.change(0, 4, -100), BAD);
            due("rest 100", x.change(0, 4, 100), BAD);
        });
        Check.says("Its SUM at a POINT is all FACTORS times VARIABLES, and the REST.", () -> {
            Used x = new Used();
            x.add(LEAST, Check.pack(9, 9, 9, 9), 99);
            x.add(LEAST, Check.pack(-9, -9, -9, -9), -99);
            x.add(LEAST, NO_FACTOR, 0);
            due("the greatest sum", x.sum(0, 4095), 351);
            due("the least sum", x.sum(1, 4095), -351);
            due("no sum", x.sum(2, 4095), 0);
            due("the rest alone", x.sum(0, 0), 99);
        });
    }

    /** Constraints of one kind whose sums are -2, -1, 0, 1, 2, at all points. */
    private static int holdingOf(char sign) {
        return Used.told("1;-2" + sign + ";-1" + sign + ";0" + sign + ";1" + sign + ";2" + sign).hold(0);
    }

    private static void kinds() {
        Check.says("0 LEAST: the SUM is 0 or more.", () -> due("hold", holdingOf('>'), 4 + 8 + 16));
        Check.says("1 UTMOST: 0 or less.", () -> due("hold", holdingOf('<'), 1 + 2 + 4));
        Check.says("2 SAME: 0.", () -> due("hold", holdingOf('='), 4));
        Check.says("3 OTHER: not 0.", () -> due("hold", holdingOf('#'), 1 + 2 + 8 + 16));
        Check.says("4 EVEN: it is divisible by 2.", () -> {
            due("hold", holdingOf('%'), 1 + 4 + 16);
            due("hold of -99, 99, -98, 98", Used.told("1;-99%;99%;-98%;98%").hold(0), 4 + 8);
        });
        Check.says("FULFILLED is a POINT (all VARIABLES 0 .. MOST) at which all CONSTRAINTS HOLD.", () -> {
            due("none to hold", new Used().count(2), 625);
            due("one beyond MOST", Used.told("4;a-5=").count(2), 0);
            due("one at MOST", Used.told("4;a-4=").count(2), 125);
            due("one at 0", Used.told("4;a=").count(2), 125);
            due("one below 0", Used.told("4;a+1=").count(2), 0);
            due("each variable at MOST", Used.told("4;a-4=;b-4=;c-4=;d-4=").count(2), 1);
            due("all but the eighth hold", Used.told("4;a>;a>;a>;a>;a>;a>;a>;a+1<").count(2), 0);
            due("all but the first hold", Used.told("4;a+1<;a>;a>;a>;a>;a>;a>;a>").count(2), 0);
            lookedAnew();
        });
    }

    /** What is looked for, in one text. */
    private static String looks(Used x) {
        StringBuilder text = new StringBuilder();
        text.append(x.count(2)).append(' ').append(x.count(3)).append(' ').append(x.core());
        for (int i = 0; i < 4; i++) {
            text.append(' ').append(x.range(i, 2)).append(' ').append(x.apart(i, (i + 1) % 4, 2)).append(' ').append(x.deep(i, 2));
            text.append(' ').append(x.spare(i % 2)).append(' ').append(x.stretch(i)).append(' ').append(x.row(i, 0, -1, 0));
        }
        return text.toString();
    }

    /** What is looked for is so whatever was looked for ahead of an act. */
    private static void lookedAnew() {
        Check.Call[] acts = {(x, v) -> x.add(SAME, A, -3), (x, v) -> x.drop(0), (x, v) -> x.drop(1), (x, v) -> x.drop(2),
            (x, v) -> x.change(0, 1, -9), (x, v) -> x.change(0, 4, -9), (x, v) -> x.shape(0, SAME), (x, v) -> x.turn(0), (x, v) -> x.call(2),
            (x, v) -> x.call(7), (x, v) -> x.drift(9), (x, v) -> x.undo(), (x, v) -> x.restore(), (x, v) -> x.tell("5;b-2=;c-1<")};
        for (int i = 0; i < acts.length; i++) {
            Used x = manyPoints();
            String before = looks(x);
            acts[i].of(x, 0);
            Used y = manyPoints();
            acts[i].of(y, 0);
            String after = looks(x);
            Check.alike("act " + i, after, looks(y));
            due("act " + i + " is seen", after.equals(before) ? 0 : 1, 1);
        }
    }

    private static Used manyPoints() {
        Used x = Used.told("3;a-b-1>;c-2<;d-1#");
        x.image();
        x.change(2, 4, -2);
        x.shape(1, EVEN);
        return x;
    }

    private static void acts() {
        Check.says("ADDED, a CONSTRAINT comes behind the others.", () -> {
            Used x = Used.told("4;1>;2>");
            due("add", x.add(LEAST, NO_FACTOR, 3), 2);
            for (int k = 0; k < 3; k++) {
                due("rest of " + k, x.of(k, 4), k + 1);
            }
        });
        Check.says("DROPPED: it goes, those behind it have one number less.", TermsTest::dropped);
        Check.says("CHANGED: its FACTOR of a VARIABLE (4: its REST) is another number.", () -> {
            Used x = Used.told("4;a+b+c+d+1>;a+b+c+d+1>");
            for (int what = 0; what < 5; what++) {
                due("change", x.change(0, what, -9 + what), 1);
            }
            Check.cells(x, 0, -9, -8, -7, -6, -5, 0);
            Check.cells(x, 1, 1, 1, 1, 1, 1, 0);
        });
        Check.says("SHAPED: its KIND is another one.", () -> {
            Used x = Used.told("4;a+1>;a+1>");
            int[] kinds = {EVEN, OTHER, SAME, UTMOST, LEAST};
            int was = LEAST;
            for (int kind : kinds) {
                due("shape", x.shape(1, kind), was);
                Check.cells(x, 1, 1, 0, 0, 0, 1, kind);
                was = kind;
            }
            Check.cells(x, 0, 1, 0, 0, 0, 1, LEAST);
        });
        Check.says("TURNED: all its FACTORS, its REST are 0 less those.", () -> {
            Used x = new Used();
            x.add(UTMOST, Check.pack(-9, 9, 0, 1), -99);
            x.add(OTHER, Check.pack(9, -9, 0, -1), 99);
            x.turn(0);
            Check.cells(x, 0, 9, -9, 0, -1, 99, UTMOST);
            Check.cells(x, 1, 9, -9, 0, -1, 99, OTHER);
            x.turn(1);
            Check.cells(x, 1, -9, 9, 0, 1, -99, OTHER);
        });
        Check.says("CALLED: MOST is another one.", () -> {
            Used x = Used.told("1;a>");
            due("call", x.call(7), 1);
            due("MOST", x.count(1), 7);
            due("points", x.count(2), 4096);
            due("call", x.call(1), 7);
            due("points", x.count(2), 16);
            Check.cells(x, 0, 1, 0, 0, 0, 0, LEAST);
        });
    }

    private static void dropped() {
        for (int gone = 0; gone < 8; gone++) {
            Used x = Used.told("4;0>;1>;2>;3>;4>;5>;6>;7>");
            due("drop(" + gone + ")", x.drop(gone), 7);
            for (int k = 0; k < 7; k++) {
                due("of(" + k + ", 4)", x.of(k, 4), k < gone ? k : k + 1);
            }
            due("of(7, 4)", x.of(7, 4), BAD);
        }
        Used one = Used.told("4;a-9>");
        due("drop the only one", one.drop(0), 0);
        due("points", one.count(2), 625);
    }

    private static void points() {
        Check.says("(Nothing is changed.)", TermsTest::lookedFor);
        Check.says("POINTS: how many are FULFILLED; FIRST: the least; none.", () -> {
            due("all", Used.told("7").count(2), 4096);
            due("the first of all", Used.told("7").count(3), 0);
            due("the last alone", Used.told("7;a+b+c+d-28=").count(2), 1);
            due("the last", Used.told("7;a+b+c+d-28=").count(3), 4095);
            due("points of none", Used.told("7;a-9>").count(2), 0);
            due("first of none", Used.told("7;a-9>").count(3), NONE);
            due("the least of two", Used.told("7;a+d-1=;b=;c=").count(3), 1);
        });
        Check.says("RANGE of a VARIABLE: the least, the greatest value that it has at those; VALUES (a set).", () -> {
            String[] letters = {"a", "b", "c", "d"};
            for (int v = 0; v < 4; v++) {
                Used x = Used.told("7;" + letters[v] + "%;" + letters[v] + "-1>");
                due("least", x.range(v, 0), 2);
                due("greatest", x.range(v, 1), 6);
                due("values", x.range(v, 2), 4 + 16 + 64);
                due("values of another", x.range(3 - v, 2), 255);
                x.tell("7;" + letters[v] + "-7=");
                due("least", x.range(v, 0), 7);
                due("greatest", x.range(v, 1), 7);
                x.tell("7;" + letters[v] + "=");
                due("least", x.range(v, 0), 0);
                due("greatest", x.range(v, 1), 0);
                due("values at the last point alone", Used.told("7;a+b+c+d-28=").range(v, 2), 128);
                due("values at the first point alone", Used.told("7;a+b+c+d=").range(v, 2), 1);
            }
        });
        Check.says("APART of two VARIABLES: the least, the greatest of the second one less the first one at those; how many different ones; none.",
            TermsTest::apart);
    }

    private static void lookedFor() {
        Used x = Check.rich();
        for (int what = 0; what < 5; what++) {
            x.count(what);
            x.range(what % 4, what % 3);
            x.apart(what % 4, (what + 1) % 4, what % 3);
            x.row(what % 4, what % 2, 0, what);
            x.row(what % 4, what % 2, -1, 0);
            x.deep(what % 4, what);
            x.spare(what % 2);
            x.stretch(what % 3);
            x.core();
            x.asked(0, 3, what % 2);
            x.seen(0, 0, 0, 0, 2, what % 2);
            x.hold(0);
            x.sum(0, 0);
            x.of(0, 0);
        }
        Check.alike("what is looked for", Check.state(x), Check.state(Check.rich()));
    }

    private static void apart() {
        Used all = Used.told("7");
        for (int v = 0; v < 4; v++) {
            for (int w = 0; w < 4; w++) {
                if (v != w) {
                    due("least", all.apart(v, w, 0), -7);
                    due("greatest", all.apart(v, w, 1), 7);
                    due("how many", all.apart(v, w, 2), 15);
                }
            }
        }
        Used x = Used.told("7;a=;b-7=;c-d=");
        due("b less a", x.apart(0, 1, 0), 7);
        due("b less a", x.apart(0, 1, 1), 7);
        due("a less b", x.apart(1, 0, 0), -7);
        due("a less b", x.apart(1, 0, 1), -7);
        due("how many", x.apart(1, 0, 2), 1);
        due("d less c", x.apart(2, 3, 0), 0);
        due("d less c", x.apart(2, 3, 1), 0);
        due("how many", x.apart(2, 3, 2), 1);
        due("how many at the last point alone", Used.told("7;a+b+c+d-28=").apart(3, 1, 2), 1);
        due("how many at the first point alone", Used.told("7;a+b+c+d=").apart(3, 1, 2), 1);
        Used gaps = Used.told("7;a-1#;a-2%;b-4=");
        due("how many, with gaps", gaps.apart(0, 1, 2), 4);
        Used none = Used.told("7;a-9>");
        due("least of none", none.apart(0, 1, 0), NONE);
        due("greatest of none", none.apart(0, 1, 1), NONE);
        due("how many of none", none.apart(0, 1, 2), 0);
    }

    private static void rows() {
        Check.says("LEAST gives a ROW of its FACTORS, its REST (the SUM by it is to be 0 or more),", () ->
            Check.rows(Used.told("3;b-2c+4d-5>"), 0, 0, Check.numbers(0, 1, -2, 4, -5), Check.numbers(0, 0, 0, 0, 3)));
        Check.says("UTMOST the same of 0 less all these,", () ->
            Check.rows(Used.told("3;b-2c+4d-5<"), 0, 0, Check.numbers(0, -1, 2, -4, 5), Check.numbers(0, 0, 0, 0, 3)));
        Check.says("SAME both, the one of LEAST first,", () ->
            Check.rows(Used.told("3;b-2c+4d-5="), 0, 0, Check.numbers(0, 1, -2, 4, -5), Check.numbers(0, -1, 2, -4, 5),
                Check.numbers(0, 0, 0, 0, 3)));
        Check.says("OTHER, EVEN none;", () ->
            Check.rows(Used.told("3;b-2c+4d-5#;b-2c+4d-5%"), 0, 0, Check.numbers(0, 0, 0, 0, 3)));
        Check.says("then a ROW v (to be 0 or more), a ROW MOST less v.", () -> {
            for (int v = 0; v < 4; v++) {
                Check.rows(Used.told("7"), v, 0, Check.numbers(0, 0, 0, 0, 7));
                Check.rows(Used.told("1"), v, 1, Check.numbers(0, 0, 0, 0, 1));
            }
            // The row of LEAST is ahead of v, the row of UTMOST ahead of MOST less v.
            Check.rows(Used.told("5;a-b-1>;a-c-2<"), 0, 0, Check.numbers(0, -1, 1, 0, 1), Check.numbers(0, -1, 0, 0, 4),
                Check.numbers(0, 0, 1, 0, 2), Check.numbers(0, 0, 0, 0, 5));
        });
    }

    private static void shadows() {
        Check.says("A ROW is LOWER if it has v by a FACTOR above 0, UPPER if below 0.", () -> {
            Used x = Used.told("2;c+d-3>;c-d+1>;-c+d+1>");
            // Of c: two lower ones and c, one upper one and 2 less c.
            due("rows of c", x.row(2, 0, -1, 0), 6);
            due("rows of a: none has it", x.row(0, 0, -1, 0), 4);
            Check.rows(x, 2, 0, Check.numbers(0, 0, 0, 1, -1), Check.numbers(0, 0, 0, 1, -1), Check.numbers(0, 0, 0, 0, 2),
                Check.numbers(0, 0, 0, -1, 3), Check.numbers(0, 0, 0, 1, 1), Check.numbers(0, 0, 0, 0, 2));
        });
        Check.says("all ROWS without v, in their order, then for each LOWER one, for each UPPER one, in their orders, a ROW:",
            TermsTest::order);
        Check.says("the LOWER one times B and the UPPER one times A, together (A: by which FACTOR the LOWER one has v; B: the UPPER one, 0 less that),", () -> {
            // 9a + b - 4 by 5 and -5a + c + 3 by 9.
            Used x = Used.told("7;9a+b-4>;-5a+c+3>");
            Check.rows(x, 0, 0, Check.numbers(0, 5, 9, 0, 7), Check.numbers(0, 1, 0, 0, 59),
                Check.numbers(0, 0, 1, 0, 3), Check.numbers(0, 0, 0, 0, 7));
        });
        Check.says("for DARK with a REST less by A less 1 times B less 1.", () -> {
            Used x = Used.told("7;9a+b-4>;-5a+c+3>");
            Check.rows(x, 0, 1, Check.numbers(0, 5, 9, 0, 7 - 8 * 4), Check.numbers(0, 1, 0, 0, 59),
                Check.numbers(0, 0, 1, 0, 3), Check.numbers(0, 0, 0, 0, 7));
            Check.rows(Used.told("7;b-1>;3a-c>;3a-b>;-4a+d>"), 0, 1, Check.numbers(0, 1, 0, 0, -1), Check.numbers(0, 0, -4, 3, -6),
                Check.numbers(0, 0, -1, 0, 21), Check.numbers(0, -4, 0, 3, -6), Check.numbers(0, -1, 0, 0, 21),
                Check.numbers(0, 0, 0, 1, 0), Check.numbers(0, 0, 0, 0, 7));
            Used most = Used.told("7;9d+b-4>;-9d+c+3>");
            // 9b + 9c - 9, less 64: by 9 towards less.
            Check.rows(most, 3, 0, Check.numbers(0, 1, 1, 0, -1), Check.numbers(0, 1, 0, 0, 59),
                Check.numbers(0, 0, 1, 0, 3), Check.numbers(0, 0, 0, 0, 7));
            Check.rows(most, 3, 1, Check.numbers(0, 1, 1, 0, -9), Check.numbers(0, 1, 0, 0, 59),
                Check.numbers(0, 0, 1, 0, 3), Check.numbers(0, 0, 0, 0, 7));
        });
    }

    private static void order() {
        Check.rows(Used.told("2;-a+b>;c-1>;a+c>;-a+d>;d-1<"), 0, 0, Check.numbers(0, 0, 1, 0, -1), Check.numbers(0, 0, 0, -1, 1),
            Check.numbers(0, 1, 1, 0, 0), Check.numbers(0, 0, 1, 1, 0), Check.numbers(0, 0, 1, 0, 2),
            Check.numbers(0, 1, 0, 0, 0), Check.numbers(0, 0, 0, 1, 0), Check.numbers(0, 0, 0, 0, 2));
        // Eight SAME are 16 rows: 9 lower ones, 9 upper ones; without any of v, 16 and one.
        Used most = Used.told("7;a=;a=;a=;a=;a=;a=;a=;9a-b=");
        due("rows of a", most.row(0, 1, -1, 0), 81);
        due("the last row's rest", most.row(0, 1, 80, 4), 7);
        due("no more rows", most.row(0, 1, 81, 0), BAD);
        due("rows of d", most.row(3, 0, -1, 0), 17);
        due("rows of b", most.row(1, 0, -1, 0), 14 + 4);
    }

    private static void reducedRows() {
        Check.says("A ROW of a SHADOW is REDUCED: divided by the greatest number that divides all its FACTORS,", () -> {
            Check.rows(Used.told("4;2b-4c+8d+10>"), 0, 0, Check.numbers(0, 1, -2, 4, 5), Check.numbers(0, 0, 0, 0, 4));
            Check.rows(Used.told("4;6b-9c+3>"), 0, 0, Check.numbers(0, 2, -3, 0, 1), Check.numbers(0, 0, 0, 0, 4));
            Check.rows(Used.told("4;4b-9c+6>"), 0, 0, Check.numbers(0, 4, -9, 0, 6), Check.numbers(0, 0, 0, 0, 4));
            Check.rows(Used.told("4;-9d+90>"), 0, 0, Check.numbers(0, 0, 0, -1, 10), Check.numbers(0, 0, 0, 0, 4));
            Check.rows(Used.told("4;4b-8c-6d+4>"), 0, 1, Check.numbers(0, 2, -4, -3, 2), Check.numbers(0, 0, 0, 0, 4));
        });
        Check.says("if one of these is not 0,", () -> {
            Check.rows(Used.told("4;9a-1>;9a-80<"), 0, 0, Check.numbers(0, 0, 0, 0, 711), Check.numbers(0, 0, 0, 0, 35),
                Check.numbers(0, 0, 0, 0, 80), Check.numbers(0, 0, 0, 0, 4));
            Check.rows(Used.told("4;9a-1>;9a-80<"), 0, 1, Check.numbers(0, 0, 0, 0, 647), Check.numbers(0, 0, 0, 0, 35),
                Check.numbers(0, 0, 0, 0, 80), Check.numbers(0, 0, 0, 0, 4));
            Check.rows(Used.told("4;-99>;98<;0="), 2, 1, Check.numbers(0, 0, 0, 0, -99), Check.numbers(0, 0, 0, 0, -98),
                Check.numbers(0, 0, 0, 0, 0), Check.numbers(0, 0, 0, 0, 0), Check.numbers(0, 0, 0, 0, 4));
        });
        Check.says("the REST divided so that what is left over is not below 0 (towards less).", () -> {
            int[] rests = {-99, -91, -90, -89, -10, -9, -8, -1, 0, 1, 8, 9, 10, 89, 90, 99};
            int[] parts = {-11, -11, -10, -10, -2, -1, -1, -1, 0, 0, 0, 1, 1, 9, 10, 11};
            Used x = Used.told("4;9b-9c+50>");
            for (int i = 0; i < rests.length; i++) {
                x.change(0, 4, rests[i]);
                for (int shadow = 0; shadow < 2; shadow++) {
                    due("rest of " + rests[i], x.row(0, shadow, 0, 4), parts[i]);
                    due("factor", x.row(0, shadow, 0, 1), 1);
                    due("factor below 0", x.row(0, shadow, 0, 2), -1);
                }
            }
        });
    }

    private static void depths() {
        Check.says("DEEP in a SHADOW: how many of the other VARIABLES' values (0 .. MOST each) fulfil all its ROWS.", () -> {
            for (int v = 0; v < 4; v++) {
                due("all of 7", Used.told("7").deep(v, 0), 512);
                due("all of 1", Used.told("1").deep(v, 1), 8);
                due("none", Used.told("7;-1>").deep(v, 0), 0);
                due("the last alone", Used.told("7;a+b+c+d-28>").deep(v, 0), 1);
                due("the first alone", Used.told("7;a+b+c+d<").deep(v, 1), 1);
            }
            due("one at MOST", Used.told("4;b-4>").deep(0, 0), 25);
            due("one beyond MOST", Used.told("4;b-5>").deep(0, 0), 0);
            due("one at 0", Used.told("4;b<").deep(0, 0), 25);
            due("a sum of 0 is enough", Used.told("4;b-c=").deep(0, 0), 25);
        });
        Check.says("TRUE (what 2): how many of these there are with which some v (0 .. MOST) fulfils all ROWS of v.", () -> {
            for (int v = 0; v < 4; v++) {
                char letter = (char) ('a' + v);
                due("v 0 alone", Used.told("7;" + letter + "<").deep(v, 2), 512);
                due("v MOST alone", Used.told("7;" + letter + "-7>").deep(v, 2), 512);
                due("another one's 0 alone", Used.told("7;" + letter + "<").deep(3 - v, 2), 64);
                due("v is the other one", Used.told("7;" + letter + "-" + (char) ('d' - v) + "-1=").deep(v, 2), 7 * 64);
            }
            due("v beyond MOST", Used.told("4;a-5>").deep(0, 2), 0);
            due("v below 0", Used.told("4;a+1<").deep(0, 2), 0);
            for (int v = 0; v < 4; v++) {
                due("the last point alone", Used.told("7;a+b+c+d-28>").deep(v, 2), 1);
                due("the first point alone", Used.told("7;a+b+c+d<").deep(v, 2), 1);
            }
            due("rows without v", Used.told("4;b-4>;a-2=").deep(0, 2), 25);
            due("neither OTHER nor EVEN", Used.told("4;a#;b#;a-1%;0#").deep(0, 2), 125);
            due("no whole v", Used.told("4;2a-1=").deep(0, 2), 0);
            // No one v fulfils both rows, but each alone is fulfilled by one.
            due("one v for all rows", Used.told("4;a-3>;a-2<").deep(0, 2), 0);
        });
        Check.says("GREY (3): how many of the REAL ones are not DARK;", () -> {
            due("all grey", Used.told("4;2a-1=").deep(0, 3), 125);
            due("none grey", Used.told("4;a-1=").deep(0, 3), 0);
            due("not real, not grey", Used.told("4;2a-1=;b-9>").deep(0, 3), 0);
            // 3a from b + 1 on, 2a up to c: dark needs 3c - 2b - 2 - 2 or more.
            Used x = Used.told("1;3a-b-1>;2a-c<");
            due("real", x.deep(0, 0), 2);
            due("dark", x.deep(0, 1), 0);
            due("grey", x.deep(0, 3), 2);
        });
        Check.says("LIT (4): how many of GREY are TRUE.", () -> {
            due("all lit", Used.told("4;2a-2=").deep(0, 4), 125);
            due("none lit", Used.told("4;2a-1=").deep(0, 4), 0);
            due("true but not grey", Used.told("4;a-1=").deep(0, 4), 0);
            due("some lit", Used.told("7;3a-b-1>;3a-b-2<").deep(0, 4), 5 * 64);
        });
    }

    private static void spares() {
        Check.says("SPARE: the CONSTRAINT without which there are most POINTS, of like ones the first; how many;", () -> {
            Used like = Used.told("4;a-1<;b-1<;c-1<");
            due("of like ones", like.spare(0), 0);
            due("how many", like.spare(1), 100);
            Used last = Used.told("4;a>;a>;a>;a>;a>;a>;a>;a-9>");
            due("the eighth", last.spare(0), 7);
            due("how many", last.spare(1), 625);
            Used second = Used.told("4;a-1<;b<;c<");
            due("the first of two like ones", second.spare(0), 1);
            due("how many", second.spare(1), 50);
            due("the last point and all but it", Used.told("7;a+b+c+d-28=;a-7=;b-7=;c-7=;d-7=").spare(1), 1);
            due("the first point and all but it", Used.told("7;a+b+c+d=;a=;b=;c=;d=").spare(1), 1);
            Used none = Used.told("4;a-9>;b-9>;c>");
            due("none whichever is left out", none.spare(0), 0);
            due("how many", none.spare(1), 0);
        });
        Check.says("none: there is no CONSTRAINT.", () -> {
            Used x = Used.told("4;a-9>");
            due("the only one", x.spare(0), 0);
            due("how many", x.spare(1), 625);
            x.drop(0);
            due("no one", x.spare(0), NONE);
            due("how many", x.spare(1), NONE);
        });
    }

    private static void stretch(String text, int want) {
        due("stretch of the first of " + text, Used.told(text).stretch(0), want);
    }

    private static void stretches() {
        Check.says("STRETCH of a CONSTRAINT: the least number (0 .. 99) by which its REST is to be more, or less, that there be a POINT", () -> {
            stretch("4;a>", 0);
            stretch("4;a-4=", 0);
            stretch("4;a+1>", 0);
            stretch("4;a-5<", 0);
            stretch("4;a+1#", 0);
            stretch("4;2a+2%", 0);
            stretch("1;-a-98>;a=", 98);
            stretch("1;-a-99>;a=", 99);
            stretch("1;-a-99>;a-1=", NONE);
            stretch("1;-a-99=;a=", 99);
            stretch("1;-a-99=;a-1=", NONE);
            stretch("1;a+99<;a=", -99);
            stretch("1;a+99<;a-1=", NONE);
            stretch("1;a+99=;a=", -99);
            stretch("1;a+99=;a-1=", NONE);
            stretch("4;a-5>", 1);
            stretch("4;a+1<", -1);
            stretch("7;a-9>;a+b+c+d-28=", 2);
            stretch("7;a+9<;a+b+c+d=", -9);
        });
        Check.says("(more, if both do;", () -> {
            stretch("4;2a-1=", 1);
            stretch("4;8a-4=", 4);
            stretch("4;8a-4=;a-1=", -4);
            stretch("4;8a-4=;a=", 4);
            stretch("4;8a-5=", -3);
            stretch("4;8a-3=", 3);
            stretch("4;-3a+1=", -1);
            stretch("4;3a-2=;a-1>", -1);
            stretch("4;0#", 1);
            stretch("4;a-1%;a=", 1);
        });
        Check.says("no bound on the REST then):", () -> {
            stretch("7;-9a-9b+50>;a-7=;b-7=", 76);
            stretch("7;9a+9b-50<;a-7=;b-7=", -76);
            stretch("7;-9a-9b+99=;a-7=;b-7=", 27);
            stretch("7;9a+9b-99=;a-7=;b-7=", -27);
        });
        Check.says("0 less it, if less; none.", () -> {
            stretch("4;a+2=", -2);
            stretch("4;a-9=", 5);
            stretch("4;a>;b-9>", NONE);
            stretch("4;a-5>;b-9>", NONE);
        });
    }

    private static void core(String text, int want) {
        due("core of " + text, Used.told(text).core(), want);
    }

    private static void cores() {
        Check.says("CORE: the fewest CONSTRAINTS (of like ones the least set) that leave no POINT, if these alone are asked;", () -> {
            core("4;a-9>", 1);
            core("4;a-9>;b-9>", 1);
            core("4;a>;b-9>;b-9>", 2);
            core("4;a>;a>;a>;a>;a>;a>;a>;a-9>", 128);
            // Two leave none, one alone as well, though it is the greater set.
            core("4;a-1>;a<;b-9>", 4);
            core("4;a-1>;b-1>;b<;a<", 2 + 4);
            core("4;a-1>;b-1>;a<;b<", 1 + 4);
            core("4;a<;b<;a+b-1>", 7);
            core("7;a#;a-1#;a-2#;a-3#;a-4#;a-5#;a-6#;a-7#", 255);
            core("6;a-7#;a#;a-1#;a-2#;a-3#;a-4#;a-5#;a-6#", 254);
        });
        Check.says("none: there are POINTS.", () -> {
            due("no constraints", new Used().core(), NONE);
            core("4;a>", NONE);
            core("7;a+b+c+d-28=", NONE);
            core("7;a+b+c+d=", NONE);
            Used x = Used.told("7;a-1>");
            due("points", x.core(), NONE);
            x.change(0, 4, -9);
            due("no points any more", x.core(), 1);
            x.undo();
            due("points again", x.core(), NONE);
            core("7;a#;a-1#;a-2#;a-3#;a-4#;a-5#;a-6#", NONE);
        });
    }

    private static void odds() {
        Check.says("ASKED by c of 10 (0 .. 10): each CONSTRAINT is asked by c of 10, apart:", () -> {
            Used x = Used.told("4;1=;1=;1=;1=;1=;1=;1=;1=");
            int[] above = {1, 43046721, 65536, 5764801, 6561, 1, 256, 6561, 1, 1, 0};
            int[] below = {1, 100000000, 390625, 100000000, 390625, 256, 390625, 100000000, 390625, 100000000, 1};
            for (int c = 0; c <= 10; c++) {
                due("eight fail by " + c, x.asked(0, c, 0), above[c]);
                due("eight fail by " + c, x.asked(0, c, 1), below[c]);
            }
            x.tell("4;1=;0=;1=;0=");
            due("two fail by 3", x.asked(0, 3, 0), 49);
            due("two fail by 3", x.asked(0, 3, 1), 100);
        });
        Check.says("a fraction in lowest terms.", () -> {
            Used x = Used.told("4;a-1=");
            int[] above = {1, 9, 4, 7, 3, 1, 2, 3, 1, 1, 0};
            int[] below = {1, 10, 5, 10, 5, 2, 5, 10, 5, 10, 1};
            for (int c = 0; c <= 10; c++) {
                due("one fails by " + c, x.asked(0, c, 0), above[c]);
                due("one fails by " + c, x.asked(0, c, 1), below[c]);
                due("it holds by " + c, x.asked(512, c, 0), 1);
                due("it holds by " + c, x.asked(512, c, 1), 1);
            }
            due("none asked", new Used().asked(0, 10, 0), 1);
            due("none asked", new Used().asked(0, 10, 1), 1);
        });
    }

    private static void seen() {
        Check.says("SEEN: a row tells POINTS (n, 1 .. 8): KINDS (a set) of a CONSTRAINT by which it HOLDS at all of them; at none of them.", () -> {
            // By d less 2 the points 0 .. 7 have the sums -2 .. 5; its own kind is not asked.
            for (char sign : "><=#%".toCharArray()) {
                Used x = Used.told("4;d-2" + sign);
                x.sheet(0, 1, 10);
                for (int i = 0; i < 8; i++) {
                    x.item(0, 1, i + 1, i);
                }
                x.item(0, 1, 0, -1);
                x.item(0, 1, 9, 4096);
                int[] all = {2 + 8 + 16, 2 + 8, 1 + 2 + 4 + 16, 1 + 8, 1 + 8 + 16};
                int[] none = {1 + 4, 1 + 4 + 16, 8, 2 + 4 + 16, 2 + 4};
                for (int i = 0; i < 5; i++) {
                    due("all of one", x.seen(0, 0, 1, i + 1, 1, 0), all[i]);
                    due("none of one", x.seen(0, 0, 1, i + 1, 1, 1), none[i]);
                }
                due("all of two below 0", x.seen(0, 0, 1, 1, 2, 0), 2 + 8);
                due("none of two below 0", x.seen(0, 0, 1, 1, 2, 1), 1 + 4);
                due("all of five above 0", x.seen(0, 0, 1, 4, 5, 0), 1 + 8);
                due("none of five above 0", x.seen(0, 0, 1, 4, 5, 1), 2 + 4);
                due("all of eight", x.seen(0, 0, 1, 1, 8, 0), 0);
                due("none of eight", x.seen(0, 0, 1, 1, 8, 1), 0);
                due("n 0", x.seen(0, 0, 1, 1, 0, 0), BAD);
                due("n 9", x.seen(0, 0, 1, 0, 9, 0), BAD);
            }
        });
    }

    private static void undone() {
        Check.says("UNDONE: the latest of what is ADDED, DROPPED, CHANGED, SHAPED, TURNED, CALLED, a turn of a DRIFT, is as it had not been",
            TermsTest::eachUndone);
        Check.says("(8 are known, older ones lost):", () -> {
            for (int acts = 7; acts <= 10; acts++) {
                Used x = Used.told("4;0>");
                for (int k = 1; k <= acts; k++) {
                    x.change(0, 4, k);
                    due("may be undone", x.count(4), Math.min(k, 8));
                }
                for (int left = Math.min(acts, 8) - 1; left >= 0; left--) {
                    due("undo", x.undo(), left);
                }
                due("undo of none", x.undo(), NONE);
                due("rest", x.of(0, 4), Math.max(acts - 8, 0));
            }
        });
        Check.says("CONSTRAINTS, MOST, THE DRAW are as ahead of it, whatever was told since;", () -> {
            Used x = Used.told("4;a>;b<");
            x.seed(3);
            x.call(5);
            x.seed(4);
            due("undo", x.undo(), 0);
            due("THE DRAW", x.seed(5), 3);
            due("MOST", x.count(1), 4);
            x.drift(2);
            x.seed(0);
            due("undo", x.undo(), 1);
            due("THE DRAW of one turn", x.seed(0), (5 * 1103515245L + 12345) % (1L << 31));
            due("undo", x.undo(), 0);
            due("THE DRAW of none", x.seed(0), 5);
            Check.cells(x, 0, 1, 0, 0, 0, 0, LEAST);
            Check.cells(x, 1, 0, 1, 0, 0, 0, UTMOST);
        });
        Check.says("a SYSTEM told leaves nothing to be UNDONE.", () -> {
            Used x = Used.told("4;a>");
            for (int k = 0; k < 9; k++) {
                x.turn(0);
            }
            due("a FAULT", x.tell("4;"), FAULT - 2);
            due("may be undone still", x.count(4), 8);
            due("system", x.tell("4"), 0);
            due("may be undone", x.count(4), 0);
            due("undo", x.undo(), NONE);
        });
    }

    private static void eachUndone() {
        Check.Call[] acts = {(x, v) -> x.add(EVEN, A, 3), (x, v) -> x.drop(0), (x, v) -> x.drop(2), (x, v) -> x.change(1, 3, 9),
            (x, v) -> x.change(2, 4, -99), (x, v) -> x.shape(0, OTHER), (x, v) -> x.turn(1), (x, v) -> x.call(1), (x, v) -> x.drift(1)};
        for (int i = 0; i < acts.length; i++) {
            Used x = Check.rich();
            acts[i].of(x, 0);
            due("may be undone after act " + i, x.count(4), 5);
            due("undo of act " + i, x.undo(), 4);
            Check.alike("undo of act " + i, Check.state(x), Check.state(Check.rich()));
        }
        Used x = Used.told("4;a>");
        due("may be undone", x.count(4), 0);
        x.drift(3);
        due("each turn may be undone", x.count(4), 3);
        x.seed(5);
        x.image();
        x.restore();
        due("no other acts", x.count(4), 3);
    }

    /** The seed by which a turn makes a number THE DRAW. */
    private static int seedBefore(long draw) {
        BigInteger back = BigInteger.valueOf(1103515245).modInverse(BITS_31);
        return BigInteger.valueOf(draw - 12345).multiply(back).mod(BITS_31).intValueExact();
    }

    /** Constraints with nothing but a rest of 99, and one turn by which x is a number. */
    private static Used turned(int constraints, int x) {
        StringBuilder text = new StringBuilder("4");
        for (int k = 0; k < constraints; k++) {
            text.append(";99%");
        }
        Used used = Used.told(text.toString());
        used.seed(seedBefore(x * 65536L + 65535));
        used.drift(1);
        return used;
    }

    private static void drifts() {
        Check.says("THE DRAW is a number of 31 bits (1 at first);", () -> {
            Used x = new Used();
            due("at first", x.seed(MAX), 1);
            due("the greatest", x.seed(0), MAX);
            due("the least", x.seed(1), 0);
        });
        Check.says("for each turn it becomes the lowest 31 bits of itself times 1103515245 and 12345 more:", () -> {
            int[] draws = {0, 1, 2, 12345, 65535, 65536, 1 << 30, MAX - 1, MAX, seedBefore(0), seedBefore(MAX)};
            for (int draw : draws) {
                Used x = new Used();
                x.seed(draw);
                x.drift(1);
                BigInteger next = BigInteger.valueOf(draw).multiply(BigInteger.valueOf(1103515245)).add(BigInteger.valueOf(12345));
                due("after " + draw, x.seed(0), next.mod(BITS_31).longValueExact());
            }
        });
        Check.says("x is it by 65536 (cut):", () -> {
            // 64 and one less, 1 more: what is left over of 65536 does not count.
            due("64", turned(1, 64).of(0, 3), 1 - 9);
            due("63", turned(1, 63).of(0, 2), -9);
            Used x = Used.told("4;99%");
            x.seed(seedBefore(64 * 65536L));
            x.drift(1);
            due("64 without anything over", x.of(0, 3), 1 - 9);
        });
        Check.says("if there are CONSTRAINTS, the one that x is, left over by how many there are,", () -> {
            Used none = new Used();
            due("drift of none", none.drift(40), 625);
            due("constraints", none.count(0), 0);
            for (int many = 1; many <= 8; many++) {
                for (int x = 8; x < 16; x++) {
                    Used used = turned(many, x);
                    for (int k = 0; k < many; k++) {
                        due("of " + many + " by " + x, used.of(k, 1), k == x % many ? -9 : 0);
                    }
                }
            }
        });
        Check.says("has by the VARIABLE that x by 8 is, left over by 5 (4: the REST),", () -> {
            for (int by = 0; by < 12; by++) {
                Used x = turned(2, by * 8 + 1);
                for (int what = 0; what < 5; what++) {
                    due("by " + by, x.of(1, what), what == by % 5 ? (by / 8) - 9 : what == 4 ? 99 : 0);
                    due("by " + by, x.of(0, what), what == 4 ? 99 : 0);
                }
                due("kind", x.of(1, 5), EVEN);
            }
        });
        Check.says("what x by 64 is, left over by 19, less 9.", () -> {
            for (int by : new int[] {0, 1, 8, 9, 10, 17, 18, 19, 20, 37, 38, 511}) {
                Used x = turned(1, by * 64 + 7);
                due("by " + by, x.of(0, by * 8 % 5), by % 19 - 9);
            }
            due("the greatest x", turned(1, 32767).of(0, 4095 % 5), 511 % 19 - 9);
        });
    }

    private static void tells(String text, int want) {
        due("system of '" + text + "'", new Used().tell(text), want);
    }

    /** The first constraint that a text tells. */
    private static void first(String text, int... want) {
        Used x = new Used();
        x.tell(text);
        Check.cells(x, 0, want);
    }

    private static void systems() {
        Check.says("A SYSTEM is a TEXT: a digit 1 .. 7 (MOST),", () -> {
            for (int most = 1; most <= 7; most++) {
                Used x = new Used();
                due("system", x.tell("" + most), 0);
                due("MOST", x.count(1), most);
            }
            for (char c : "089/:a;".toCharArray()) {
                tells("" + c, FAULT);
            }
            tells("11", FAULT - 1);
        });
        Check.says("then 0 to 8 times a ; and a CONSTRAINT:", () -> {
            StringBuilder text = new StringBuilder("3");
            for (int many = 0; many <= 8; many++) {
                tells(text.toString(), many);
                tells(text + ";", FAULT - text.length() - (many < 8 ? 1 : 0));
                text.append(";a>");
            }
            tells(text.toString(), FAULT - 25);
            tells("3a>", FAULT - 1);
            tells("3;a>b>", FAULT - 4);
            tells("3;a>;;b>", FAULT - 5);
        });
        Check.says("one or more TERMS, then > (LEAST), < (UTMOST), = (SAME), # (OTHER), % (EVEN).", () -> {
            String signs = "><=#%";
            for (int kind = 0; kind < 5; kind++) {
                first("3;d-1" + signs.charAt(kind), 0, 0, 0, 1, -1, kind);
                tells("3;" + signs.charAt(kind), FAULT - 2);
                tells("3;a" + signs.charAt(kind) + signs.charAt(kind), FAULT - 4);
            }
            tells("3;a", FAULT - 3);
            tells("3;a!", FAULT - 3);
            tells("3;a;", FAULT - 3);
            first("3;1a+2b+3c+4d+5>", 1, 2, 3, 4, 5, LEAST);
        });
        Check.says("In place of all (THE DRAW stays).", () -> {
            Used x = Check.rich();
            due("a FAULT first", x.system(), FAULT - 3);
            due("system", x.tell("2;9b#"), 1);
            due("MOST", x.count(1), 2);
            Check.cells(x, 0, 0, 9, 0, 0, 0, OTHER);
            due("THE DRAW", x.seed(0), 11);
            due("none", x.tell("6"), 0);
            due("constraints", x.count(0), 0);
            due("points", x.count(2), 2401);
            due("eight", x.tell("6;a>;a>;a>;a>;a>;a>;a>;-8d%"), 8);
            due("one", x.tell("6;5<"), 1);
            due("the second", x.of(1, 0), BAD);
        });
    }

    private static void terms() {
        Check.says("A TERM: + or - (+ may be left out ahead of the first one),", () -> {
            first("3;a>", 1, 0, 0, 0, 0, LEAST);
            first("3;+a>", 1, 0, 0, 0, 0, LEAST);
            first("3;-a>", -1, 0, 0, 0, 0, LEAST);
            first("3;-9>", 0, 0, 0, 0, -9, LEAST);
            first("3;+9-a+b>", -1, 1, 0, 0, 9, LEAST);
            tells("3;ab>", FAULT - 3);
            tells("3;a2b>", FAULT - 3);
            tells("3;+>", FAULT - 3);
            tells("3;--a>", FAULT - 3);
            tells("3;+-a>", FAULT - 3);
            tells("3;a+>", FAULT - 4);
            tells("3;a++b>", FAULT - 4);
        });
        Check.says("then a number 0 .. 99, a letter a .. d, or both (a number 0 .. 9 ahead of a letter);", () -> {
            first("3;0>", 0, 0, 0, 0, 0, LEAST);
            first("3;99>", 0, 0, 0, 0, 99, LEAST);
            first("3;-99>", 0, 0, 0, 0, -99, LEAST);
            first("3;0a-9b+9c-0d>", 0, -9, 9, 0, 0, LEAST);
            first("3;d-c+b-a>", -1, 1, -1, 1, 0, LEAST);
            tells("3;10a>", FAULT - 4);
            tells("3;99d>", FAULT - 4);
            tells("3;e>", FAULT - 2);
            tells("3;`>", FAULT - 2);
            tells("3;A>", FAULT - 2);
            tells("3;9e>", FAULT - 3);
            tells("3;a9>", FAULT - 3);
        });
        Check.says("each letter, the number alone once at most in a CONSTRAINT, in any order;", () -> {
            first("3;5-d+4c-3b+2a>", 2, -3, 4, -1, 5, LEAST);
            first("3;2a+5-3b>", 2, -3, 0, 0, 5, LEAST);
            for (char c : "abcd".toCharArray()) {
                tells("3;" + c + "+" + c + ">", FAULT - 4);
                tells("3;0" + c + "-3" + c + ">", FAULT - 6);
                tells("3;" + c + ">;" + c + ">", 2);
            }
            tells("3;5+5>", FAULT - 5);
            tells("3;0-0>", FAULT - 5);
            tells("3;5>;5>", 2);
        });
        Check.says("FACTORS, RESTS not told are 0.", () -> {
            Used x = Used.told("3;9a+9b+9c+9d+99%;9a+9b+9c+9d+99%");
            x.tell("3;b>;7<");
            Check.cells(x, 0, 0, 1, 0, 0, 0, LEAST);
            Check.cells(x, 1, 0, 0, 0, 0, 7, UTMOST);
        });
        Check.says("Numbers have 1 or 2 digits (a third one can't stand there).", () -> {
            first("3;5>", 0, 0, 0, 0, 5, LEAST);
            first("3;05>", 0, 0, 0, 0, 5, LEAST);
            first("3;00>", 0, 0, 0, 0, 0, LEAST);
            first("3;50>", 0, 0, 0, 0, 50, LEAST);
            tells("3;100>", FAULT - 4);
            tells("3;000>", FAULT - 4);
            tells("3;005a>", FAULT - 4);
            tells("3;a-123>", FAULT - 6);
        });
    }

    private static void faults() {
        Check.says("FAULTS: -1000020 less the place of the first letter (behind blanks) that can't stand there", () -> {
            tells("x", FAULT);
            tells("  x", FAULT - 2);
            tells("4   x", FAULT - 4);
            tells("4;a>  x  x", FAULT - 6);
            tells("4;  >", FAULT - 4);
            tells("4;a  ;", FAULT - 5);
            tells("4;-  -", FAULT - 5);
        });
        Check.says("(a letter told already, or behind a number above 9, too; a number alone that is told already: what stands behind it);", () -> {
            tells("4;a+ a>", FAULT - 5);
            tells("4;a+3 a>", FAULT - 6);
            tells("4;a+13a>", FAULT - 6);
            tells("4;12 a>", FAULT - 5);
            tells("4;5+12a>", FAULT - 6);
            tells("4;5+9a>", 1);
            tells("4;5+6-a>", FAULT - 5);
            tells("4;5+6 >", FAULT - 6);
            tells("4;5+67 ;", FAULT - 7);
            tells("4;5+6 7>", FAULT - 6);
        });
        Check.says("the end: how many there are;", () -> {
            tells("", FAULT);
            tells("   ", FAULT - 3);
            tells("4;", FAULT - 2);
            tells("4;  ", FAULT - 4);
            tells("4;a", FAULT - 3);
            tells("4;a ", FAULT - 4);
            tells("4;a+", FAULT - 4);
            tells("4;12", FAULT - 4);
            tells("4;5+6", FAULT - 5);
            tells("4;5+6  ", FAULT - 7);
            tells("4;" + " ".repeat(128), FAULT - 130);
            tells(" ".repeat(130), FAULT - 130);
            tells(" ".repeat(129) + "4", 0);
            tells(" ".repeat(129) + "x", FAULT - 129);
            // Of a text told ahead nothing is left behind the end.
            Used x = Used.told("4;12a>;a>");
            x.tell("4;12>");
            due("a number at the end", x.tell("4;1"), FAULT - 3);
            due("a letter at the end", x.tell("4;a"), FAULT - 3);
            x.tell("4;12>;a>");
            due("a sign at the end", x.tell("4;12"), FAULT - 4);
            due("a constraint at the end", x.tell("4;12>"), 1);
            due("a number as the last of 130", x.tell("4;" + " ".repeat(127) + "1"), FAULT - 130);
        });
        Check.says("blanks count for nothing, but end a number.", () -> {
            first("  7  ;  -  9  a  +  9  9 ", BAD);
            first("  7  ;  -  9  a  +  99  <  ", -9, 0, 0, 0, 99, UTMOST);
            tells("4;1 2>", FAULT - 4);
            tells("4;1 2a>", FAULT - 4);
            tells("4; 9 a>", 1);
            tells("4 4", FAULT - 2);
        });
    }

    private static void sheets() {
        Check.says("nothing (at first), or a row of a LANE: 0 bytes, 1 shorts, 2 ints, 3 longs, of 0 to 24 items.", () -> {
            Used x = Used.told("4;a>");
            for (int sheet = 0; sheet < 4; sheet++) {
                due("clear at first", x.clear(sheet), NULL);
                for (int lane = 0; lane < 4; lane++) {
                    due("sheet of 0", x.sheet(sheet, lane, 0), 0);
                    due("no items", x.item(sheet, lane, 0, 0), INDEX);
                    due("sheet of 24", x.sheet(sheet, lane, 24), 24);
                    due("the last", x.item(sheet, lane, 23, 0), 1);
                    due("beyond", x.item(sheet, lane, 24, 0), INDEX);
                    due("another lane", x.item(sheet, 3 - lane, 0, 0), CAST);
                    due("sheet of 25", x.sheet(sheet, lane, 25), BAD);
                }
            }
        });
    }
}
