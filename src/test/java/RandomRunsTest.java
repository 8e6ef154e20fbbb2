import java.util.ArrayList;
import java.util.List;
import java.util.Random;

/**
 * Runs of calls drawn from fixed seeds, each answer beside that of PlainModel;
 * every so often all that can be told is compared too, on objects made anew by
 * the same calls, since none answers for more than 512.
 */
public final class RandomRunsTest {
    private static final int ALL_RUNS = 3000;
    private static final int CALLS = Asked.MOST_CALLS;
    private static final String[] NAMES = Call.NAMES;
    private static final int[] ODD = {
        Integer.MIN_VALUE, Integer.MAX_VALUE, -1, -2, -100, 8, 12, 13, 24, 60, 61, 99, 100, 999, 1000};
    /** How likely each call is in the three sorts of runs: all alike, hires, rounds. */
    private static final int[][] LIKELY = {
        {2, 3, 3, 1, 2, 1, 1, 6, 2, 1, 1, 1, 1, 1, 6, 6, 1, 1, 2, 3, 2, 2, 1, 3, 2, 2, 3, 3, 1, 3, 1, 1, 1},
        {2, 4, 4, 1, 3, 0, 1, 12, 4, 0, 1, 2, 2, 2, 25, 25, 2, 1, 2, 2, 5, 3, 0, 0, 0, 0, 0, 0, 0, 0, 1, 1, 0},
        {2, 8, 0, 0, 2, 0, 0, 14, 0, 0, 1, 0, 0, 0, 3, 3, 0, 2, 4, 1, 2, 4, 1, 0, 0, 0, 20, 12, 2, 12, 1, 1, 0}};

    /** Calls that change nothing, and tell most of what is there. */
    private static final List<Call> READINGS = readings();

    private long longRounds;
    private final long[] granted = new long[NAMES.length];
    private final long[] refused = new long[NAMES.length];
    private Random dice;
    private WheelStands x;
    private final List<Call> made = new ArrayList<>();
    private PlainModel y;
    private int stands;
    private int wheels;
    private int carts;

    public static void main(String[] args) {
        RandomRunsTest all = new RandomRunsTest();
        for (int seed = 0; seed < ALL_RUNS; seed++) {
            all.run(seed);
        }
        for (int call = 0; call < NAMES.length; call++) {
            // A run in which a call is never granted, or never refused, would test little of it.
            Due.yes(NAMES[call] + " was granted often", all.granted[call] > 1000);
            if (!NAMES[call].equals("hour")) {
                Due.yes(NAMES[call] + " was refused often", all.refused[call] > 300);
            }
        }
        Due.yes("carry() often went to six or seven stands", all.longRounds > 300);
        Due.close("RandomRunsTest");
    }

    private void run(int seed) {
        dice = new Random(seed);
        x = new WheelStands();
        y = new PlainModel();
        made.clear();
        int[] likely = LIKELY[seed % LIKELY.length];
        int sum = 0;
        for (int n : likely) {
            sum += n;
        }
        int first = dice.nextInt(10);
        for (int i = 0; i < first; i++) {
            both(0, 2 + dice.nextInt(11), 0, 0, 0, seed);
        }
        while (made.size() < CALLS) {
            int parts = made.size() / 128;
            int drawn = dice.nextInt(sum);
            int call = 0;
            while (drawn >= likely[call]) {
                drawn -= likely[call];
                call++;
            }
            draw(call, seed);
            if (made.size() / 128 > parts && made.size() < CALLS) {
                compareAll(seed);
            }
        }
    }

    private int odd(int usual) {
        return dice.nextInt(25) == 0 ? ODD[dice.nextInt(ODD.length)] : usual;
    }

    private int below(int n) {
        return odd(dice.nextInt(Math.max(1, n)));
    }

    private void draw(int call, int seed) {
        stands = y.count(0);
        wheels = y.count(1);
        carts = y.count(2);
        int s = below(stands);
        int w = below(wheels);
        int c = below(carts);
        int docks = Math.max(2, y.tell(s, 0));
        switch (NAMES[call]) {
            case "stand": both(call, odd(2 + dice.nextInt(11)), 0, 0, 0, seed); break;
            case "length": both(call, s, below(stands), length(), 0, seed); break;
            case "next": both(call, s, below(stands), 0, 0, seed); break;
            case "tear": both(call, s, below(2), 0, 0, seed); break;
            case "block": both(call, s, below(docks), dice.nextInt(2), 0, seed); break;
            case "dock": both(call, s, below(docks), 0, 0, seed); break;
            case "tell": both(call, s, below(9), 0, 0, seed); break;
            case "put": both(call, below(4), s, below(docks), 0, seed); break;
            case "charge": both(call, w, bits(), 0, 0, seed); break;
            case "wheel": both(call, w, below(9), 0, 0, seed); break;
            case "doubt": both(call, odd(dice.nextInt(5) - 1), below(4), 0, 0, seed); break;
            case "hire": drawHire(call, s, docks, seed); break;
            case "end": drawEnd(call, w, s, seed); break;
            case "cart": both(call, odd(1 + dice.nextInt(8)), s, 0, 0, seed); break;
            case "drive": both(call, c, s, 0, 0, seed); break;
            case "pick": both(call, c, below(y.tell(y.load(c, 1), 0)), 0, 0, seed); break;
            case "fetch": drawFetch(call, c, w, seed); break;
            case "load": both(call, c, below(13), 0, 0, seed); break;
            case "demand": both(call, s, below(24), persons(), persons(), seed); break;
            case "runs": both(call, s, below(docks + 1), below(3), 0, seed); break;
            case "want": drawWant(call, s, seed); break;
            case "round": both(call, below(8), 0, 0, 0, seed); break;
            case "image": both(call, below(4), 0, 0, 0, seed); break;
            case "again": both(call, below(4), 0, 0, 0, seed); break;
            case "count": both(call, below(10), 0, 0, 0, seed); break;
            case "shortage": both(call, s, 0, 0, 0, seed); break;
            case "drop": case "plan": case "carry": both(call, c, 0, 0, 0, seed); break;
            default: both(call, w, 0, 0, 0, seed); break;
        }
    }

    /** Few different lengths make many rounds of the same length. */
    private int length() {
        return odd(dice.nextInt(3) == 0 ? 1 + dice.nextInt(999) : 1 + dice.nextInt(4) * (1 + dice.nextInt(90)));
    }

    private int persons() {
        return odd(dice.nextInt(3) == 0 ? dice.nextInt(100) : dice.nextInt(8));
    }

    private int bits() {
        switch (dice.nextInt(4)) {
            case 0: return dice.nextInt();
            case 1: return odd(Float.floatToRawIntBits(1f) + dice.nextInt(5) - 2);
            default: return Float.floatToRawIntBits(dice.nextInt(1001) / 1000f) + dice.nextInt(3) - 1;
        }
    }

    private void drawHire(int call, int s, int docks, int seed) {
        int child = -1;
        for (int d = 0; d < docks && dice.nextInt(3) > 0; d++) {
            if (y.wheel(y.dock(s, d), 0) == 3) {
                child = d;
            }
        }
        both(call, s, below(docks), odd(child), 0, seed);
    }

    private void drawEnd(int call, int w, int s, int seed) {
        int hired = w;
        for (int i = 0; i < wheels && y.wheel(hired, 2) != 2; i++) {
            hired = i;
        }
        both(call, odd(hired), s, 0, 0, seed);
    }

    private void drawFetch(int call, int c, int w, int seed) {
        int lost = w;
        for (int i = 0; i < wheels && y.wheel(lost, 2) != 3; i++) {
            lost = i;
        }
        if (y.wheel(lost, 2) == 3 && dice.nextInt(4) > 0 && made.size() + 1 < CALLS) {
            both(18, c, y.wheel(lost, 3), 0, 0, seed);
        }
        both(call, c, odd(lost), 0, 0, seed);
    }

    /** Most wants are such that there may be a round: what one has too many another lacks. */
    private void drawWant(int call, int s, int seed) {
        int lacking = 0;
        for (int i = 0; i < stands; i++) {
            if (i != s && y.tell(i, 5) != -1) {
                lacking += y.tell(i, 5) - y.tell(i, 3);
            }
        }
        int even = y.tell(s, 3) - lacking;
        boolean evenDoes = even >= 0 && even <= 12 && dice.nextInt(3) > 0;
        int near = Math.max(0, y.tell(s, 3) + dice.nextInt(5) - 2);
        both(call, s, odd(evenDoes ? even : dice.nextInt(8) == 0 ? -1 : near), 0, 0, seed);
    }

    private void both(int number, int a, int b, int c, int d, int seed) {
        Call call = new Call(NAMES[number], a, b, c, d);
        made.add(call);
        long got = call.on(x);
        long due = askModel(call);
        if (call.isRefusal(due)) {
            refused[number]++;
        } else {
            granted[number]++;
        }
        if (call.name().equals("carry") && due > 0 && y.round(5) != -1) {
            longRounds++;
        }
        if (got != due) {
            Due.is("seed " + seed + ": " + call, got, due);
        }
    }

    private long askModel(Call call) {
        int a = call.a();
        int b = call.b();
        int c = call.c();
        switch (call.name()) {
            case "stand": return y.stand(a);
            case "length": return y.length(a, b, c) ? 1 : 0;
            case "next": return y.next(a, b);
            case "tear": return y.tear(a, b) ? 1 : 0;
            case "block": return y.block(a, b, c == 1) ? 1 : 0;
            case "dock": return y.dock(a, b);
            case "tell": return y.tell(a, b);
            case "put": return y.put(a, b, c);
            case "charge": return y.charge(a, b);
            case "wheel": return y.wheel(a, b);
            case "fault": return y.fault(a) ? 1 : 0;
            case "test": return y.test(a);
            case "mend": return y.mend(a) ? 1 : 0;
            case "doubt": return y.doubt(a, b);
            case "hire": return y.hire(a, b, c);
            case "end": return y.end(a, b);
            case "hour": return y.hour();
            case "cart": return y.cart(a, b);
            case "drive": return y.drive(a, b);
            case "pick": return y.pick(a, b);
            case "fetch": return y.fetch(a, b) ? 1 : 0;
            case "drop": return y.drop(a);
            case "load": return y.load(a, b);
            case "demand": return y.demand(a, b, c, call.d()) ? 1 : 0;
            case "runs": return y.runs(a, b, c);
            case "shortage": return y.shortage(a);
            case "want": return y.want(a, b) ? 1 : 0;
            case "plan": return y.plan(a);
            case "round": return y.round(a);
            case "carry": return y.carry(a);
            case "image": return y.image(a) ? 1 : 0;
            case "again": return y.again(a) ? 1 : 0;
            default: return y.count(a);
        }
    }

    private static List<Call> readings() {
        List<Call> all = new ArrayList<>();
        for (int what = -1; what <= 9; what++) {
            all.add(new Call("count", what, 0, 0, 0));
            all.add(new Call("round", what, 0, 0, 0));
            addFor(all, "tell", 12, what);
            addFor(all, "wheel", 60, what);
        }
        for (int what = -1; what <= 12; what++) {
            addFor(all, "dock", 12, what);
            addFor(all, "load", 3, what);
            for (int s = 0; s < 12; s++) {
                all.add(new Call("runs", s, what, 2, 0));
            }
        }
        addFor(all, "shortage", 12, 0);
        return all;
    }

    private static void addFor(List<Call> all, String name, int many, int what) {
        for (int i = 0; i < many; i++) {
            all.add(new Call(name, i, what, 0, 0));
        }
    }

    private void compareAll(int seed) {
        Asked again = Asked.after(made);
        for (Call call : READINGS) {
            if (again.calls.size() == CALLS) {
                again = Asked.after(made);
            }
            long got = again.ask(call);
            long due = askModel(call);
            if (got != due) {
                Due.is("seed " + seed + ", all told after " + made.size() + ": " + call, got, due);
            }
        }
    }
}
