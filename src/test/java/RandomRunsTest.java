import java.util.Random;
import java.util.Set;

/**
 * Runs of calls drawn from fixed seeds, each answer beside that of PlainModel;
 * every so often all that can be told is compared too.
 */
public final class RandomRunsTest {
    private static final int ALL_RUNS = 3000;
    private static final int CALLS = 512;
    private static final String[] NAMES = {
        "stand", "length", "next", "tear", "block", "dock", "tell", "put", "charge", "wheel", "fault",
        "test", "mend", "doubt", "hire", "end", "hour", "cart", "drive", "pick", "fetch", "drop", "load",
        "demand", "runs", "shortage", "want", "plan", "round", "carry", "image", "again", "count"};
    private static final int[] ODD = {
        Integer.MIN_VALUE, Integer.MAX_VALUE, -1, -2, -100, 8, 12, 13, 24, 60, 61, 99, 100, 999, 1000};
    /** How likely each call is in the three sorts of runs: all alike, hires, rounds. */
    private static final int[][] LIKELY = {
        {2, 3, 3, 1, 2, 1, 1, 6, 2, 1, 1, 1, 1, 1, 6, 6, 1, 1, 2, 3, 2, 2, 1, 3, 2, 2, 3, 3, 1, 3, 1, 1, 1},
        {2, 4, 4, 1, 3, 0, 1, 12, 4, 0, 1, 2, 2, 2, 25, 25, 2, 1, 2, 2, 5, 3, 0, 0, 0, 0, 0, 0, 0, 0, 1, 1, 0},
        {2, 8, 0, 0, 2, 0, 0, 14, 0, 0, 1, 0, 0, 0, 3, 3, 0, 2, 4, 1, 2, 4, 1, 0, 0, 0, 20, 12, 2, 12, 1, 1, 0}};

    private static final Set<String> YES_OR_NO = Set.of("length", "tear", "block", "fault", "mend", "fetch",
        "demand", "want", "image", "again");

    private long longRounds;
    private final long[] granted = new long[NAMES.length];
    private final long[] refused = new long[NAMES.length];
    private Random dice;
    private WheelStands x;
    private PlainModel y;
    private int stands;
    private int wheels;
    private int carts;

    public static void main(String[] args) {
        RandomRunsTest all = new RandomRunsTest();
        for (int seed = 0; seed < ALL_RUNS; seed++) {
            all.run(seed);
        }
        for (int call = 0; call < NAMES.length; call++) {
            // A run in which a call is never granted, or never refused, would test little of it.
            Due.yes(NAMES[call] + " was granted often", all.granted[call] > 1000);
            if (!NAMES[call].equals("hour")) {
                Due.yes(NAMES[call] + " was refused often", all.refused[call] > 300);
            }
        }
        Due.yes("carry() often went to six or seven stands", all.longRounds > 300);
        Due.close("RandomRunsTest");
    }

    private void run(int seed) {
        dice = new Random(seed);
        x = new WheelStands();
        y = new PlainModel();
        int[] likely = LIKELY[seed % LIKELY.length];
        int sum = 0;
        for (int n : likely) {
            sum += n;
        }
        int first = dice.nextInt(10);
        for (int i = 0; i < first; i++) {
            both(0, 2 + dice.nextInt(11), 0, 0, 0, seed);
        }
        for (int i = first; i < CALLS; i++) {
            int drawn = dice.nextInt(sum);
            int call = 0;
            while (drawn >= likely[call]) {
                drawn -= likely[call];
                call++;
            }
            draw(call, seed);
            if (i % 128 == 127) {
                compareAll(seed);
            }
        }
    }

    private int odd(int usual) {
        return dice.nextInt(25) == 0 ? ODD[dice.nextInt(ODD.length)] : usual;
    }

    private int below(int n) {
        return odd(dice.nextInt(Math.max(1, n)));
    }

    private void draw(int call, int seed) {
        stands = x.count(0);
        wheels = x.count(1);
        carts = x.count(2);
        int s = below(stands);
        int w = below(wheels);
        int c = below(carts);
        int docks = Math.max(2, x.tell(s, 0));
        switch (NAMES[call]) {
            case "stand": both(call, odd(2 + dice.nextInt(11)), 0, 0, 0, seed); break;
            case "length": both(call, s, below(stands), length(), 0, seed); break;
            case "next": both(call, s, below(stands), 0, 0, seed); break;
            case "tear": both(call, s, below(2), 0, 0, seed); break;
            case "block": both(call, s, below(docks), dice.nextInt(2), 0, seed); break;
            case "dock": both(call, s, below(docks), 0, 0, seed); break;
            case "tell": both(call, s, below(9), 0, 0, seed); break;
            case "put": both(call, below(4), s, below(docks), 0, seed); break;
            case "charge": both(call, w, bits(), 0, 0, seed); break;
            case "wheel": both(call, w, below(9), 0, 0, seed); break;
            case "doubt": both(call, odd(dice.nextInt(5) - 1), below(4), 0, 0, seed); break;
            case "hire": drawHire(call, s, docks, seed); break;
            case "end": drawEnd(call, w, s, seed); break;
            case "cart": both(call, odd(1 + dice.nextInt(8)), s, 0, 0, seed); break;
            case "drive": both(call, c, s, 0, 0, seed); break;
            case "pick": both(call, c, below(x.tell(x.load(c, 1), 0)), 0, 0, seed); break;
            case "fetch": drawFetch(call, c, w, seed); break;
            case "load": both(call, c, below(13), 0, 0, seed); break;
            case "demand": both(call, s, below(24), persons(), persons(), seed); break;
            case "runs": both(call, s, below(docks + 1), below(3), 0, seed); break;
            case "want": drawWant(call, s, seed); break;
            case "round": both(call, below(8), 0, 0, 0, seed); break;
            case "image": both(call, below(4), 0, 0, 0, seed); break;
            case "again": both(call, below(4), 0, 0, 0, seed); break;
            case "count": both(call, below(10), 0, 0, 0, seed); break;
            case "shortage": both(call, s, 0, 0, 0, seed); break;
            case "drop": case "plan": case "carry": both(call, c, 0, 0, 0, seed); break;
            default: both(call, w, 0, 0, 0, seed); break;
        }
    }

    /** Few different lengths make many rounds of the same length. */
    private int length() {
        return odd(dice.nextInt(3) == 0 ? 1 + dice.nextInt(999) : 1 + dice.nextInt(4) * (1 + dice.nextInt(90)));
    }

    private int persons() {
        return odd(dice.nextInt(3) == 0 ? dice.nextInt(100) : dice.nextInt(8));
    }

    private int bits() {
        switch (dice.nextInt(4)) {
            case 0: return dice.nextInt();
            case 1: return odd(Float.floatToRawIntBits(1f) + dice.nextInt(5) - 2);
            default: return Float.floatToRawIntBits(dice.nextInt(1001) / 1000f) + dice.nextInt(3) - 1;
        }
    }

    private void drawHire(int call, int s, int docks, int seed) {
        int child = -1;
        for (int d = 0; d < docks && dice.nextInt(3) > 0; d++) {
            if (x.wheel(x.dock(s, d), 0) == 3) {
                child = d;
            }
        }
        both(call, s, below(docks), odd(child), 0, seed);
    }

    private void drawEnd(int call, int w, int s, int seed) {
        int hired = w;
        for (int i = 0; i < wheels && x.wheel(hired, 2) != 2; i++) {
            hired = i;
        }
        both(call, odd(hired), s, 0, 0, seed);
    }

    private void drawFetch(int call, int c, int w, int seed) {
        int lost = w;
        for (int i = 0; i < wheels && x.wheel(lost, 2) != 3; i++) {
            lost = i;
        }
        if (x.wheel(lost, 2) == 3 && dice.nextInt(4) > 0) {
            both(18, c, x.wheel(lost, 3), 0, 0, seed);
        }
        both(call, c, odd(lost), 0, 0, seed);
    }

    /** Most wants are such that there may be a round: what one has too many another lacks. */
    private void drawWant(int call, int s, int seed) {
        int lacking = 0;
        for (int i = 0; i < stands; i++) {
            if (i != s && x.tell(i, 5) != -1) {
                lacking += x.tell(i, 5) - x.tell(i, 3);
            }
        }
        int even = x.tell(s, 3) - lacking;
        boolean evenDoes = even >= 0 && even <= 12 && dice.nextInt(3) > 0;
        int near = Math.max(0, x.tell(s, 3) + dice.nextInt(5) - 2);
        both(call, s, odd(evenDoes ? even : dice.nextInt(8) == 0 ? -1 : near), 0, 0, seed);
    }

    private void both(int call, int a, int b, int c, int d, int seed) {
        long got = ask(call, a, b, c, d);
        long due = askModel(call, a, b, c, d);
        if (due < 0 || due == 0 && YES_OR_NO.contains(NAMES[call])) {
            refused[call]++;
        } else {
            granted[call]++;
        }
        if (NAMES[call].equals("carry") && due > 0 && y.round(5) != -1) {
            longRounds++;
        }
        if (got != due) {
            Due.is("seed " + seed + ": " + NAMES[call] + "(" + a + ", " + b + ", " + c + ", " + d + ")", got, due);
        }
    }

    private long ask(int call, int a, int b, int c, int d) {
        switch (NAMES[call]) {
            case "stand": return x.stand(a);
            case "length": return x.length(a, b, c) ? 1 : 0;
            case "next": return x.next(a, b);
            case "tear": return x.tear(a, b) ? 1 : 0;
            case "block": return x.block(a, b, c == 1) ? 1 : 0;
            case "dock": return x.dock(a, b);
            case "tell": return x.tell(a, b);
            case "put": return x.put(a, b, c);
            case "charge": return x.charge(a, b);
            case "wheel": return x.wheel(a, b);
            case "fault": return x.fault(a) ? 1 : 0;
            case "test": return x.test(a);
            case "mend": return x.mend(a) ? 1 : 0;
            case "doubt": return x.doubt(a, b);
            case "hire": return x.hire(a, b, c);
            case "end": return x.end(a, b);
            case "hour": return x.hour();
            case "cart": return x.cart(a, b);
            case "drive": return x.drive(a, b);
            case "pick": return x.pick(a, b);
            case "fetch": return x.fetch(a, b) ? 1 : 0;
            case "drop": return x.drop(a);
            case "load": return x.load(a, b);
            case "demand": return x.demand(a, b, c, d) ? 1 : 0;
            case "runs": return x.runs(a, b, c);
            case "shortage": return x.shortage(a);
            case "want": return x.want(a, b) ? 1 : 0;
            case "plan": return x.plan(a);
            case "round": return x.round(a);
            case "carry": return x.carry(a);
            case "image": return x.image(a) ? 1 : 0;
            case "again": return x.again(a) ? 1 : 0;
            default: return x.count(a);
        }
    }

    private long askModel(int call, int a, int b, int c, int d) {
        switch (NAMES[call]) {
            case "stand": return y.stand(a);
            case "length": return y.length(a, b, c) ? 1 : 0;
            case "next": return y.next(a, b);
            case "tear": return y.tear(a, b) ? 1 : 0;
            case "block": return y.block(a, b, c == 1) ? 1 : 0;
            case "dock": return y.dock(a, b);
            case "tell": return y.tell(a, b);
            case "put": return y.put(a, b, c);
            case "charge": return y.charge(a, b);
            case "wheel": return y.wheel(a, b);
            case "fault": return y.fault(a) ? 1 : 0;
            case "test": return y.test(a);
            case "mend": return y.mend(a) ? 1 : 0;
            case "doubt": return y.doubt(a, b);
            case "hire": return y.hire(a, b, c);
            case "end": return y.end(a, b);
            case "hour": return y.hour();
            case "cart": return y.cart(a, b);
            case "drive": return y.drive(a, b);
            case "pick": return y.pick(a, b);
            case "fetch": return y.fetch(a, b) ? 1 : 0;
            case "drop": return y.drop(a);
            case "load": return y.load(a, b);
            case "demand": return y.demand(a, b, c, d) ? 1 : 0;
            case "runs": return y.runs(a, b, c);
            case "shortage": return y.shortage(a);
            case "want": return y.want(a, b) ? 1 : 0;
            case "plan": return y.plan(a);
            case "round": return y.round(a);
            case "carry": return y.carry(a);
            case "image": return y.image(a) ? 1 : 0;
            case "again": return y.again(a) ? 1 : 0;
            default: return y.count(a);
        }
    }

    private void compareAll(int seed) {
        for (int what = -1; what <= 9; what++) {
            same(seed, "count", what, 0, x.count(what), y.count(what));
            same(seed, "round", what, 0, x.round(what), y.round(what));
            for (int s = 0; s < 12; s++) {
                same(seed, "tell", s, what, x.tell(s, what), y.tell(s, what));
            }
            for (int w = 0; w < 60; w++) {
                same(seed, "wheel", w, what, x.wheel(w, what), y.wheel(w, what));
            }
        }
        for (int s = 0; s < 12; s++) {
            same(seed, "shortage", s, 0, x.shortage(s), y.shortage(s));
            for (int d = -1; d <= 12; d++) {
                same(seed, "dock", s, d, x.dock(s, d), y.dock(s, d));
                same(seed, "runs at the end", s, d, x.runs(s, d, 2), y.runs(s, d, 2));
            }
        }
        for (int c = 0; c < 3; c++) {
            for (int what = -1; what < 13; what++) {
                same(seed, "load", c, what, x.load(c, what), y.load(c, what));
            }
        }
    }

    private static void same(int seed, String call, int a, int b, long got, long due) {
        if (got != due) {
            Due.is("seed " + seed + ", all told: " + call + "(" + a + ", " + b + ")", got, due);
        }
    }
}
