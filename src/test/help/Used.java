/** An object that a test uses no longer than the document promises its answers: for 512 calls. */
public final class Used {
    private static final int CALLS = 512;

    private final DarkShadows x = new DarkShadows();
    private int calls = 0;

    private DarkShadows next() {
        calls++;
        if (calls > CALLS) {
            throw new IllegalStateException("a test uses one object for more than " + CALLS + " calls");
        }
        return x;
    }

    public int calls() {
        return calls;
    }

    /** The letters of a text, then the system that they tell. */
    public int tell(String text) {
        typeAll(text);
        return system();
    }

    public Used typeAll(String text) {
        for (int i = 0; i < text.length(); i++) {
            type(text.charAt(i));
        }
        return this;
    }

    public static Used told(String text) {
        Used used = new Used();
        used.tell(text);
        return used;
    }

    public int add(int kind, int factors, int rest) {
        return next().add(kind, factors, rest);
    }

    public int of(int constraint, int what) {
        return next().of(constraint, what);
    }

    public int sum(int constraint, int point) {
        return next().sum(constraint, point);
    }

    public int hold(int point) {
        return next().hold(point);
    }

    public int type(int letter) {
        return next().type(letter);
    }

    public int system() {
        return next().system();
    }

    public int count(int what) {
        return next().count(what);
    }

    public int drop(int constraint) {
        return next().drop(constraint);
    }

    public int change(int constraint, int what, int v) {
        return next().change(constraint, what, v);
    }

    public int shape(int constraint, int kind) {
        return next().shape(constraint, kind);
    }

    public int turn(int constraint) {
        return next().turn(constraint);
    }

    public int call(int most) {
        return next().call(most);
    }

    public int drift(int n) {
        return next().drift(n);
    }

    public int undo() {
        return next().undo();
    }

    public int seed(int v) {
        return next().seed(v);
    }

    public int range(int variable, int what) {
        return next().range(variable, what);
    }

    public int apart(int variable, int other, int what) {
        return next().apart(variable, other, what);
    }

    public int row(int variable, int shadow, int k, int i) {
        return next().row(variable, shadow, k, i);
    }

    public int deep(int variable, int what) {
        return next().deep(variable, what);
    }

    public int spare(int what) {
        return next().spare(what);
    }

    public int stretch(int constraint) {
        return next().stretch(constraint);
    }

    public int core() {
        return next().core();
    }

    public int asked(int point, int c, int what) {
        return next().asked(point, c, what);
    }

    public int image() {
        return next().image();
    }

    public int restore() {
        return next().restore();
    }

    public int seen(int constraint, int sheet, int lane, int i, int n, int what) {
        return next().seen(constraint, sheet, lane, i, n, what);
    }

    public int film(int n, int sheet, int lane, int i) {
        return next().film(n, sheet, lane, i);
    }

    public int sheet(int sheet, int lane, int n) {
        return next().sheet(sheet, lane, n);
    }

    public int clear(int sheet) {
        return next().clear(sheet);
    }

    public int item(int sheet, int lane, int i, long v) {
        return next().item(sheet, lane, i, v);
    }

    public int copy(int from, int i, int to, int j, int n) {
        return next().copy(from, i, to, j, n);
    }
}
