/** That the looks see whatever a call can change: a refused call that changes it would be found. */
public final class LooksTest {
    /** Each is granted in the rich town, and changes it. */
    private static final String[] CHANGES = {
        "stand(2)", "length(0, 1, 51)", "length(1, 3, 998)", "next(0, 1)", "next(1, 0)", "next(2, 1)", "tear(0, 1)",
        "tear(1, 0)", "tear(1, 1)", "tear(2, 0)", "block(0, 1, true)", "block(0, 5, false)", "put(0, 0, 1)",
        "put(2, 0, 1)", "charge(3, 1056964608)", "charge(2, 0)", "charge(6, 1065353216)", "fault(0)", "fault(1)",
        "fault(2)", "fault(6)", "fault(10)", "test(7)", "test(3)", "mend(4)", "mend(7)", "hire(3, 0, NONE)",
        "hire(0, 3, 0)", "end(0, 0)", "end(0, 3)", "hour()", "cart(1, 3)", "drive(0, 3)", "drive(1, 0)",
        "pick(0, 0)", "pick(0, 3)", "pick(1, 0)", "drop(0)", "demand(0, 0, 2, 2)", "demand(0, 1, 1, 0)",
        "demand(2, 5, 0, 0)", "demand(3, 23, 0, 1)", "want(0, 0)", "want(1, NONE)", "want(3, 12)", "plan(1)",
        "carry(1)", "image(0)", "image(1)", "image(2)", "image(3)", "again(1)", "again(3)"};

    public static void main(String[] args) {
        for (String change : CHANGES) {
            boolean rounds = change.startsWith("plan") || change.startsWith("carry");
            String ready = rounds ? "want(1, 3); want(2, NONE); want(3, 1);" : "";
            Run before = Towns.rich().does(ready);
            Run after = Towns.rich().does(ready).does(change + ";");
            Due.no(change + " is not seen", after.looksLike(before));
            Due.yes("all is the same without " + change, Towns.rich().does(ready).looksLike(before));
        }
        Due.close("LooksTest");
    }
}
