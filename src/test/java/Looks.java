import java.util.ArrayList;
import java.util.List;

/**
 * All that can be seen of an object, also what no call tells outright (lengths,
 * rows of others, faults that are not known, images). Most of that is seen by
 * changing it, so each look is at an object of its own, made by the same calls.
 */
final class Looks {
    private static final int STANDS = 12;
    private static final int DOCKS = 12;
    private static final int WHEELS = 60;
    private static final int IMAGES = 4;

    private interface Look {
        void at(Asked x);
    }

    private static final List<Look> NOW = new ArrayList<>();
    /** What again() does not bring back. */
    private static final List<Look> BESIDE = List.of(Looks::round);

    static {
        NOW.addAll(List.of(Looks::counts, Looks::stands, Looks::docks, Looks::wheels, Looks::wheelsFurther,
            Looks::carts, Looks::demands, Looks::lengths, Looks::faults));
        for (int s = 0; s < STANDS; s++) {
            int stand = s;
            NOW.add(x -> row(x, stand));
        }
    }

    private Looks() {
    }

    /** The looks at what is there after these calls, without what is beside it. */
    static List<Asked> now(List<Call> calls) {
        List<Asked> seen = new ArrayList<>();
        addAll(seen, NOW, calls);
        return seen;
    }

    /** The looks at all: what is there, the round at hand, and what each image has. */
    static List<Asked> all(List<Call> calls) {
        List<Asked> seen = now(calls);
        addAll(seen, BESIDE, calls);
        for (int k = 0; k < IMAGES; k++) {
            Asked x = Asked.after(calls);
            boolean there = x.ask("again", k) == 1;
            seen.add(x);
            if (there) {
                addAll(seen, NOW, x.calls);
            }
        }
        return seen;
    }

    private static void addAll(List<Asked> seen, List<Look> looks, List<Call> calls) {
        for (Look look : looks) {
            Asked x = Asked.after(calls);
            look.at(x);
            seen.add(x);
        }
    }

    /** The first thing that is not the same to see, or null; of each the calls that made it are passed over. */
    static String difference(List<Asked> seen, int made, List<Asked> due, int dueMade) {
        for (int i = 0; i < Math.max(seen.size(), due.size()); i++) {
            if (i >= seen.size() || i >= due.size()) {
                return "other images";
            }
            Asked x = seen.get(i);
            Asked y = due.get(i);
            int least = Math.min(x.calls.size() - made, y.calls.size() - dueMade);
            for (int k = 0; k < least; k++) {
                if (!x.calls.get(made + k).equals(y.calls.get(dueMade + k))) {
                    return "other things to look at: " + x.calls.get(made + k);
                }
                if (!x.answers.get(made + k).equals(y.answers.get(dueMade + k))) {
                    return x.calls.get(made + k) + " answered " + x.answers.get(made + k)
                        + ", due is " + y.answers.get(dueMade + k);
                }
            }
            if (x.calls.size() - made != y.calls.size() - dueMade) {
                return "more or less to look at";
            }
        }
        return null;
    }

    private static void counts(Asked x) {
        for (int what = 0; what <= 8; what++) {
            x.ask("count", what);
        }
    }

    private static void round(Asked x) {
        for (int k = 0; k <= 7; k++) {
            x.ask("round", k);
        }
    }

    private static void stands(Asked x) {
        for (int s = 0; s < STANDS; s++) {
            for (int what = 0; what <= 7; what++) {
                x.ask("tell", s, what);
            }
        }
    }

    private static void docks(Asked x) {
        for (int s = 0; s < STANDS; s++) {
            for (int d = 0; d < DOCKS; d++) {
                x.ask("dock", s, d);
            }
        }
    }

    private static void wheels(Asked x) {
        for (int w = 0; w < WHEELS; w++) {
            for (int what = 0; what <= 3; what++) {
                x.ask("wheel", w, what);
            }
        }
    }

    private static void wheelsFurther(Asked x) {
        for (int w = 0; w < WHEELS; w++) {
            for (int what = 4; what <= 7; what++) {
                x.ask("wheel", w, what);
            }
        }
    }

    private static void carts(Asked x) {
        for (int c = 0; c < 3; c++) {
            for (int what = 0; what <= 12; what++) {
                x.ask("load", c, what);
            }
        }
    }

    private static void demands(Asked x) {
        for (int s = 0; s < STANDS; s++) {
            for (int w = 0; w <= 2; w++) {
                for (int what = 0; what <= 2; what++) {
                    x.ask("runs", s, w, what);
                }
            }
            x.ask("shortage", s);
            x.ask("tear", s, 1);
        }
    }

    private static void lengths(Asked x) {
        int stands = (int) x.ask("count", 0);
        int cart = Math.max(0, (int) x.ask("cart", 1, 0));
        for (int a = 0; a < stands; a++) {
            for (int b = a + 1; b < stands; b++) {
                x.ask("drive", cart, a);
                x.ask("drive", cart, b);
            }
        }
    }

    private static void faults(Asked x) {
        int wheels = (int) x.ask("count", 1);
        for (int w = 0; w < wheels; w++) {
            if (x.ask("wheel", w, 2) == 2) {
                x.ask("end", w, 0);
            }
            x.ask("test", w);
        }
    }

    /** The way of a wheel that ends at a stand while there is room nowhere. */
    private static void row(Asked x, int stand) {
        int stands = (int) x.ask("count", 0);
        int wheel = stand < stands ? hired(x, stands) : WheelStands.NONE;
        if (wheel == WheelStands.NONE) {
            return;
        }
        for (int s = 0; s < stands; s++) {
            for (int d = 0; d < DOCKS; d++) {
                x.ask("block", s, d, 1);
            }
        }
        x.ask("end", wheel, stand);
        x.ask("wheel", wheel, 1);
        for (int s = 0; s < stands; s++) {
            x.ask("tell", s, 4);
        }
    }

    private static int hired(Asked x, int stands) {
        int wheels = (int) x.ask("count", 1);
        for (int w = 0; w < wheels; w++) {
            if (x.ask("wheel", w, 2) == 2 && x.ask("wheel", w, 0) != 3) {
                return w;
            }
        }
        for (int s = 0; s < stands; s++) {
            for (int d = 0; d < DOCKS; d++) {
                int w = (int) x.ask("hire", s, d, WheelStands.NONE);
                if (w >= 0) {
                    return w;
                }
            }
        }
        return WheelStands.NONE;
    }
}
