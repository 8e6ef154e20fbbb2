import java.util.ArrayList;
import java.util.List;

/** A town in which all is at its most: no call reaches beyond what there may be. */
public final class FullTownTest {
    private static final int[] WRONG = {Integer.MIN_VALUE, -7, -2, -1, 60, 61, 100, Integer.MAX_VALUE};

    public static void main(String[] args) {
        tellsAll(fullTown());
        Run x = fullTown();
        hires(x);
        cartsAndRounds(x);
        for (int a : WRONG) {
            for (int b : WRONG) {
                wrongNumbers(fullTown(), a, b);
            }
        }
        Due.close("FullTownTest");
    }

    /** 12 stands of 12 docks, wheels in the last ones too, every row full, four images. */
    private static Run fullTown() {
        Run x = new Run("");
        for (int s = 0; s < 12; s++) {
            x.due("stand(12)", s);
        }
        for (int w = 0; w < 60; w++) {
            int kind = w % 4 == 2 ? 0 : w % 4;
            x.due("put(" + kind + ", " + (w < 48 ? w / 12 : 11) + ", " + w % 12 + ")", w);
        }
        for (int s = 0; s < 12; s++) {
            for (int n = 1; n <= 8; n++) {
                x.due("next(" + s + ", " + (s + n) % 12 + ")", n);
            }
            x.does("demand(" + s + ", 0, 99, 99); demand(" + s + ", 23, 99, 99);");
        }
        x.due("cart(8, 11)", 0).due("cart(8, 11)", 1).due("cart(8, 11)", 2);
        return x.does("image(0); again(0); image(1); again(1); image(2); again(2); image(3); again(3);");
    }

    /** Calls that only tell answer the same twice, whatever their numbers are. */
    private static void tellsAll(Run town) {
        List<Call> all = new ArrayList<>();
        for (int a = -1; a <= 61; a++) {
            for (int b = -1; b <= 61; b++) {
                for (String name : new String[] {"dock", "tell", "wheel", "load", "doubt", "runs"}) {
                    all.add(new Call(name, a, b, 0, 0));
                }
            }
            for (String name : new String[] {"round", "count", "shortage"}) {
                all.add(new Call(name, a, 0, 0, 0));
            }
        }
        for (int from = 0; from < all.size(); from += 100) {
            List<Call> some = all.subList(from, Math.min(from + 100, all.size()));
            Asked x = town.again();
            int before = x.calls.size();
            for (int i = 0; i < 2 * some.size(); i++) {
                x.ask(some.get(i % some.size()));
            }
            for (int i = 0; i < some.size(); i++) {
                Due.is(some.get(i) + " for the second time", x.answers.get(before + some.size() + i),
                    x.answers.get(before + i));
            }
        }
    }

    private static void hires(Run x) {
        x.due("hire(11, 0, 3)", 48);
        for (int d = 0; d < 12; d++) {
            for (int s = 4; s <= 11; s++) {
                if (s < 11 || d == 0 || d == 3) {
                    x.due("block(" + s + ", " + d + ", true)", 1);
                }
            }
        }
        x.due("end(48, 3)", 111);
        for (int s = 3; s <= 11; s++) {
            x.due("tell(" + s + ", 4)", 1);
        }
        x.due("tell(11, 7)", 2);
        for (int d = 0; d < 12; d++) {
            for (int s = 4; s < 11; s++) {
                x.due("block(" + s + ", " + d + ", false)", 1);
            }
        }
        x.due("hour()", 1).due("doubt(0, 9)", 59);
    }

    private static void cartsAndRounds(Run x) {
        for (int d = 4; d < 12; d++) {
            x.due("pick(2, " + d + ")", 48 + d);
        }
        x.due("fetch(2, 48)", 0).due("load(2, 11)", 59).due("load(2, 12)", -1).due("drive(2, 10)", 999);
        for (int d = 0; d < 8; d++) {
            x.due("drop(2)", d);
        }
        x.due("drop(2)", -1)
            .does("want(0, 11); want(1, 11); want(2, 11); want(3, 5); want(5, 7); want(10, 9); want(7, 2);")
            .due("plan(0)", 7 * 999).dues("round(#)", 0, 1, 2, 7, 3, 5, 10, -1)
            .due("carry(2)", 6 * 999 + 999).due("plan(1)", 0)
            .dues("count(#)", 12, 60, 3, 58, 0, 0, 2, 0, 1);
    }

    private static void wrongNumbers(Run x, int a, int b) {
        String both = "(" + a + ", " + b + ")";
        for (String name : new String[] {"length", "tear", "block", "fault", "mend", "fetch", "demand", "want", "image",
            "again"}) {
            x.due(Call.of(name + "(" + a + ", " + b + ", 1)").toString(), 0);
        }
        for (String name : new String[] {"next", "charge", "hire", "end", "cart", "drive", "pick", "drop", "plan",
            "carry", "test", "stand"}) {
            x.due(Call.of(name + both).toString(), -1);
        }
        x.due("put(0, " + a + ", " + b + ")", -1).due("put(" + a + ", 0, 0)", -1).due("pick(0, " + b + ")", -1)
            .due("hire(0, 0, " + b + ")", b == -1 ? 0 : -5).due("count(0)", 12);
    }
}
