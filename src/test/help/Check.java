import java.io.IOException;
import java.nio.file.Files;
import java.nio.file.Path;
import java.util.ArrayList;
import java.util.List;
import java.util.function.Supplier;

/** What the tests of the document's sentences share: each is told with its words, which must stand in the document. */
public final class Check {
    public static final int BAD = -1000001, NOT = -1000002, FULL = -1000003, NONE = -1000004;
    public static final int NULL = -1000011, CAST = -1000012, INDEX = -1000013, SIZE = -1000014;
    public static final int FAULT = -1000020;
    public static final int LEAST = 0, UTMOST = 1, SAME = 2, OTHER = 3, EVEN = 4;
    public static final int MIN = Integer.MIN_VALUE, MAX = Integer.MAX_VALUE;

    /** A call with one of its numbers left open. */
    public interface Call {
        int of(Used x, int v);
    }

    private static String document = "";
    private static String sentence = "";
    private static int sentences = 0;
    private static int checks = 0;
    private static int passed = 0;
    private static int failed = 0;
    private static String richState = null;

    private Check() {
    }

    /** Runs what tests one sentence. */
    public static void says(String words, Runnable test) {
        sentence = words;
        sentences++;
        if (!document().contains(words)) {
            fail("the document does not say so");
        }
        int before = checks;
        try {
            test.run();
        } catch (RuntimeException e) {
            fail("thrown: " + e);
        }
        if (checks == before) {
            fail("nothing is tested");
        }
    }

    private static String document() {
        if (document.isEmpty()) {
            try {
                document = Files.readString(Path.of("../shared/DOC.md")).replaceAll("\\s+", " ");
            } catch (IOException e) {
                throw new IllegalStateException(e);
            }
        }
        return document;
    }

    private static void fail(String what) {
        failed++;
        System.out.println("'" + sentence + "': " + what);
    }

    public static void due(String call, long got, long want) {
        checks++;
        if (got == want) {
            passed++;
        } else {
            fail(call + " answered " + got + ", due is " + want);
        }
    }

    public static void alike(String call, String got, String want) {
        checks++;
        if (got.equals(want)) {
            passed++;
        } else {
            fail(call + " left\n    " + got + "\n  in place of\n    " + want);
        }
    }

    public static void end() {
        System.out.println(sentences + " sentences: " + passed + " passed, " + failed + " failed");
        if (failed != 0) {
            System.exit(1);
        }
    }

    /** Factors as add takes them. */
    public static int pack(int a, int b, int c, int d) {
        return (a + 9) * 8000 + (b + 9) * 400 + (c + 9) * 20 + d + 9;
    }

    public static int point(int a, int b, int c, int d) {
        return a * 512 + b * 64 + c * 8 + d;
    }

    public static void cells(Used x, int constraint, int... want) {
        for (int what = 0; what < want.length; what++) {
            due("of(" + constraint + ", " + what + ")", x.of(constraint, what), want[what]);
        }
    }

    /** Rows of a shadow, five numbers each, and that there are no more. */
    public static void rows(Used x, int variable, int shadow, int[]... want) {
        String call = "row(" + variable + ", " + shadow + ", ";
        due(call + "-1, 0)", x.row(variable, shadow, -1, 0), want.length);
        for (int k = 0; k < want.length; k++) {
            for (int i = 0; i < 5; i++) {
                due(call + k + ", " + i + ")", x.row(variable, shadow, k, i), want[k][i]);
            }
        }
        due(call + want.length + ", 0)", x.row(variable, shadow, want.length, 0), BAD);
    }

    public static int[] numbers(int... all) {
        return all;
    }

    /** Leaves an object's constraints such that items can be looked at; what may be undone, THE TAPE are lost. */
    public static void lookAtItems(Used x) {
        x.system();
        x.tell("7;8a+b=;8c+d=");
    }

    /** Items of a sheet behind lookAtItems, NOT where one is no point. */
    public static void items(Used x, int sheet, int lane, int from, int... want) {
        for (int k = 0; k < want.length; k++) {
            int i = from + k;
            int point = want[k] < 0 ? 0 : want[k];
            x.change(0, 4, -(point / 64));
            x.change(1, 4, -(point % 64));
            int ahead = x.seen(0, sheet, lane, i, 1, 0);
            int behind = x.seen(1, sheet, lane, i, 1, 0);
            int got = ahead < 0 ? ahead : (ahead & behind & 1 << SAME) != 0 ? point : -1;
            due("item " + i + " of sheet " + sheet, got, want[k]);
        }
    }

    /** An object no part of which is as in a new one. */
    public static Used rich() {
        Used x = Used.told("3;2a-b+1>;c-d<");
        x.call(4);
        x.seed(7);
        x.image();
        x.add(SAME, pack(0, 1, -1, 0), 5);
        x.call(5);
        x.shape(0, EVEN);
        x.seed(11);
        x.sheet(0, 0, 2);
        x.item(0, 0, 0, 1);
        x.item(0, 0, 1, 2);
        x.sheet(1, 1, 3);
        x.item(1, 1, 0, 3);
        x.item(1, 1, 1, 4);
        x.item(1, 1, 2, 5);
        x.sheet(2, 3, 1);
        x.item(2, 3, 0, 6);
        x.typeAll("2;a");
        return x;
    }

    /** All that can be seen of an object, by some 300 calls that use it up. */
    public static String state(Used x) {
        StringBuilder text = new StringBuilder();
        told(x, text);
        for (int sheet = 0; sheet < 4; sheet++) {
            for (int lane = 0; lane < 4; lane++) {
                text.append(x.item(sheet, lane, -1, 0)).append(' ');
            }
        }
        undos(x, text.append("| undo "));
        text.append("| restore ").append(x.restore()).append(' ');
        told(x, text);
        undos(x, text);
        text.append("| tape ").append(x.type('>')).append(' ').append(x.system()).append(' ');
        told(x, text);
        x.tell("7;a+b+c=;d=;d-1=;d-2=;d-3=;d-4=;d-5=;d-6=");
        for (int sheet = 0; sheet < 4; sheet++) {
            text.append("| sheet ");
            for (int lane = 0; lane < 4; lane++) {
                itemsAt(x, sheet, lane, text);
            }
            text.append(x.clear(sheet)).append(' ');
        }
        return text.toString();
    }

    private static void told(Used x, StringBuilder text) {
        int size = x.count(0);
        text.append(size).append(' ').append(x.count(1)).append(' ').append(x.count(4)).append(' ');
        for (int k = 0; k < Math.min(size, 8); k++) {
            for (int what = 0; what < 6; what++) {
                text.append(x.of(k, what)).append(',');
            }
        }
        int draw = x.seed(0);
        x.seed(draw);
        text.append(' ').append(draw).append(' ');
    }

    private static void undos(Used x, StringBuilder text) {
        for (int i = 0; i < 9; i++) {
            int left = x.undo();
            text.append(left).append(' ');
            if (left < 0) {
                return;
            }
            text.append(x.count(0)).append(' ').append(x.count(1)).append(' ').append(x.seed(0)).append(' ');
            for (int k = 0; k < 2; k++) {
                text.append(x.of(k, 5)).append(',').append(x.of(k, 0)).append(',').append(x.of(k, 4)).append(' ');
            }
        }
    }

    private static void itemsAt(Used x, int sheet, int lane, StringBuilder text) {
        for (int i = 0; i < 24; i++) {
            for (int k = 0; k < 8; k++) {
                int kinds = x.seen(k, sheet, lane, i, 1, 0);
                if (kinds < 0 && kinds != NOT) {
                    return;
                }
                text.append(kinds).append(k < 7 ? "," : " ");
            }
        }
    }

    private static String richState() {
        if (richState == null) {
            richState = state(rich());
        }
        return richState;
    }

    /** A rich object refuses a call, and is as it was. */
    public static void refused(String name, Call call, int v, int want) {
        Used x = rich();
        due(name, call.of(x, v), want);
        alike(name, state(x), richState());
    }

    /** Objects that are made alike: one refuses a call, and both are alike still. */
    public static void refused(String name, Supplier<Used> make, Call call, int want) {
        Used x = make.get();
        due(name, call.of(x, 0), want);
        alike(name, state(x), state(make.get()));
    }

    /** Asked of rich objects: beyond its bounds a number is BAD and changes nothing, at them it is not BAD. */
    public static void bounds(String name, int least, int greatest, Call call) {
        for (int v : beyond(least, greatest)) {
            refused(name + " " + v, call, v, BAD);
        }
        for (int v : new int[] {least, greatest}) {
            checks++;
            int got = call.of(rich(), v);
            if (got == BAD) {
                fail(name + " " + v + " answered BAD");
            } else {
                passed++;
            }
        }
    }

    private static List<Integer> beyond(int least, int greatest) {
        List<Integer> all = new ArrayList<>();
        if (least > MIN) {
            all.add(MIN);
            all.add(least - 1);
        }
        if (greatest < MAX) {
            all.add(greatest + 1);
            all.add(MAX);
        }
        return all;
    }
}
