/** The edges of promises 9 to 15, one by one; a method's name begins with the number of its promise. */
public final class WheelsEdgesTest {
    private static final int ONE = Float.floatToRawIntBits(1f);

    public static void main(String[] args) {
        promise9NoSuchKind();
        promise9NoSuchStand();
        promise9NoSuchDock();
        promise9DockNotFree();
        promise9CargoAtTheLastDock();
        promise9CargoAtTheFirstDock();
        promise9CargoNeedsBothFree();
        promise9SixtyAreTheMost();
        promise9ChargeIfItHasOne();
        promise10NoSuchWheel();
        promise10ItHasNone();
        promise10NoNumber();
        promise10BelowZero();
        promise10AboveOne();
        promise10Cut();
        promise10WhereverItIs();
        promise11AnotherWhat();
        promise11NoSuchWheel();
        promise11InADock();
        promise11OnACart();
        promise11Hired();
        promise11OnAStreet();
        promise12NoSuchWheel();
        promise12ItWasBroken();
        promise12WhereverItIs();
        promise13NoSuchWheel();
        promise13Hired();
        promise13Broken();
        promise13NotBroken();
        promise14NoSuchWheel();
        promise14Hired();
        promise14NotBroken();
        promise14KnownOrNot();
        promise15AboveN();
        promise15TheKth();
        promise15InDocksAlone();
        promise15None();
        Due.close("WheelsEdgesTest");
    }

    private static void promise9NoSuchKind() {
        Towns.rich().refusedAll(-1, "put(-1, 0, 1); put(4, 0, 1); put(LEAST, 0, 1); put(MOST, 0, 1)")
            .due("put(0, 0, 1)", 11).due("put(3, 0, 2)", 12).dues("wheel(#, 0)", 0, 3, 1, 2, 0, 3, 1, 0, 0, 0, 3, 0, 3);
    }

    private static void promise9NoSuchStand() {
        Towns.rich().refusedAll(-1, "put(0, -1, 0); put(0, 4, 0); put(0, LEAST, 0); put(2, MOST, 0)")
            .does("pick(1, 0); drive(1, 3); pick(1, 1);").due("put(0, 3, 1)", 11);
    }

    private static void promise9NoSuchDock() {
        Towns.rich().refusedAll(-1, "put(0, 0, -1); put(0, 0, 6); put(0, 1, 3); put(0, 0, LEAST); put(0, 0, MOST);"
                + "put(2, 0, LEAST); put(2, 0, MOST)")
            .due("put(0, 1, 2)", 11).due("put(0, 2, 0)", 12);
    }

    private static void promise9DockNotFree() {
        Towns.rich().refusedAll(-1, "put(0, 0, 0); put(0, 0, 3); put(0, 0, 4); put(0, 0, 5); put(3, 3, 1)")
            .does("block(0, 5, false);").due("put(1, 0, 5)", 11).refused("put(1, 0, 5)", -1);
    }

    private static void promise9CargoAtTheLastDock() {
        Run.ofStands(1, 4).refusedAll(-1, "put(2, 0, 3); put(2, 0, 4)").due("put(2, 0, 2)", 0)
            .dues("dock(0, #)", -1, -1, 0, 0, -3);
        Run.ofStands(1, 12).refused("put(2, 0, 11)", -1).due("put(2, 0, 10)", 0).due("dock(0, 11)", 0);
    }

    private static void promise9CargoAtTheFirstDock() {
        Run.ofStands(2, 2).refusedAll(-1, "put(2, 0, -1); put(2, 0, -2); put(2, 1, 1)").due("put(2, 0, 0)", 0)
            .dues("dock(0, #)", 0, 0, -3).dues("dock(1, #)", -1, -1);
    }

    private static void promise9CargoNeedsBothFree() {
        Towns.rich().refusedAll(-1, "put(2, 0, 2); put(2, 0, 0); put(2, 0, 4); put(2, 2, 0); put(2, 2, 1);"
                + "put(2, 2, 2); put(2, 2, 3); put(2, 1, 1)")
            .due("put(2, 0, 1)", 11).dues("dock(0, #)", 10, 11, 11, 3, 3, -2)
            .refused("put(2, 2, 2)", -1).does("block(2, 2, false);").due("put(2, 2, 2)", 12)
            .dues("dock(2, #)", -1, 7, 12, 12);
    }

    private static void promise9SixtyAreTheMost() {
        Run x = Run.ofStands(6, 12);
        for (int w = 0; w < 59; w++) {
            x.does("put(" + w % 2 + ", " + w / 12 + ", " + w % 12 + ");");
        }
        x.due("put(2, 5, 0)", 59).refusedAll(-1, "put(0, 5, 2); put(1, 5, 2); put(2, 5, 2); put(3, 4, 11)")
            .due("count(1)", 60).due("wheel(59, 0)", 2).due("wheel(60, 0)", -3).due("dock(5, 2)", -1)
            .does("cart(1, 0); pick(0, 0);").refused("put(0, 0, 0)", -1);
    }

    private static void promise9ChargeIfItHasOne() {
        new Run("stand(5); put(0, 0, 0); put(1, 0, 1); put(2, 0, 2); put(3, 0, 4);")
            .dues("wheel(#, 1)", 0, 1000, 1000, 0);
    }

    private static void promise10NoSuchWheel() {
        Towns.rich().refusedAll(-1, "charge(-1, 0); charge(11, 0); charge(LEAST, 0); charge(MOST, 0)")
            .does("put(1, 0, 1);").due("charge(11, " + ONE + ")", 1000).refused("charge(12, 0)", -1);
    }

    private static void promise10ItHasNone() {
        Towns.rich().refusedAll(-1, "charge(8, 0); charge(10, 0); charge(8, " + ONE + "); charge(0, 0); charge(1, 0)")
            .due("wheel(8, 1)", 0);
    }

    private static void promise10NoNumber() {
        // Infinities are 0x7F800000 and 0xFF800000; no numbers stand behind them.
        Towns.rich().refusedAll(-1, "charge(3, 2143289344); charge(3, 2139095041); charge(3, MOST); charge(3, -1);"
                + "charge(3, -8388607); charge(3, -4194304)")
            .due("wheel(3, 1)", 1000);
    }

    private static void promise10BelowZero() {
        int lessThanZero = Integer.MIN_VALUE + 1;
        Towns.rich().refusedAll(-1, "charge(3, " + lessThanZero + "); charge(3, " + Float.floatToRawIntBits(-0.001f)
                + "); charge(3, " + Float.floatToRawIntBits(-1f) + "); charge(3, -8388608)")
            .due("charge(3, LEAST)", 0).due("wheel(3, 1)", 0)
            .does("charge(3, " + ONE + ");").due("charge(3, 0)", 0).due("wheel(3, 1)", 0)
            .does("charge(3, " + ONE + ");").due("charge(3, 1)", 0).due("wheel(3, 1)", 0);
    }

    private static void promise10AboveOne() {
        Towns.rich().does(Towns.charge(3, 7))
            .refusedAll(-1, "charge(3, " + (ONE + 1) + "); charge(3, " + Float.floatToRawIntBits(2f)
                + "); charge(3, 2139095039); charge(3, 2139095040)")
            .due("charge(3, " + ONE + ")", 1000).due("wheel(3, 1)", 1000)
            .due("charge(3, " + (ONE - 1) + ")", 999).due("wheel(3, 1)", 999);
    }

    /** The last float whose product is below a thousandth more, and the first whose is not. */
    private static void promise10Cut() {
        for (int thousandths : new int[] {1, 2, 3, 10, 57, 499, 500, 501, 998, 999}) {
            int bits = Towns.bits(thousandths - 1);
            while (Float.intBitsToFloat(bits + 1) * 1000.0f < thousandths) {
                bits++;
            }
            Towns.rich().due("charge(6, " + bits + ")", thousandths - 1).due("wheel(6, 1)", thousandths - 1)
                .due("charge(6, " + (bits + 1) + ")", thousandths).due("wheel(6, 1)", thousandths);
        }
    }

    private static void promise10WhereverItIs() {
        Towns.rich().due("charge(2, " + Towns.bits(300) + ")", 300).due("wheel(2, 2)", 1)
            .due("charge(6, " + Towns.bits(301) + ")", 301).due("wheel(6, 2)", 3)
            .does("hire(0, 3, NONE);").due("charge(3, " + Towns.bits(302) + ")", 302).due("wheel(3, 2)", 2)
            .due("wheel(2, 1)", 300).due("wheel(6, 1)", 301).due("wheel(3, 1)", 302);
    }

    private static void promise11AnotherWhat() {
        Towns.rich().refusedAll(-3, "wheel(0, -1); wheel(0, 8); wheel(0, 9); wheel(10, LEAST); wheel(10, MOST)")
            .due("wheel(0, 0)", 0).due("wheel(0, 7)", 1);
    }

    private static void promise11NoSuchWheel() {
        Towns.rich().refusedAll(-3, "wheel(-1, 0); wheel(11, 0); wheel(11, 7); wheel(60, 0); wheel(LEAST, 0);"
                + "wheel(MOST, 3)")
            .due("wheel(10, 0)", 3);
    }

    private static void promise11InADock() {
        Towns.rich().dues("wheel(3, #)", 2, 1000, 0, 0, 3, 1, 0, -1, -3)
            .dues("wheel(4, #)", 0, 0, 0, 1, 0, 0, 1, -1, -3).dues("wheel(7, #)", 0, 0, 0, 2, 1, 1, 0, -1, -3);
    }

    private static void promise11OnACart() {
        Towns.rich().dues("wheel(2, #)", 1, 1000, 1, -1, 0, 1, 0, -1, -3)
            .does("pick(1, 1);").dues("wheel(5, #)", 3, 0, 1, -1, 1, 0, 0, -1, -3);
    }

    private static void promise11Hired() {
        Towns.rich().dues("wheel(0, #)", 0, 0, 2, 0, -1, 0, 0, 1, -3).dues("wheel(1, #)", 3, 0, 2, 0, -1, 0, 0, 0, -3)
            .does("hire(3, 1, NONE);").dues("wheel(9, #)", 0, 0, 2, 3, -1, 0, 0, -1, -3);
    }

    private static void promise11OnAStreet() {
        Towns.rich().dues("wheel(6, #)", 1, 500, 3, 3, -1, 0, 0, -1, -3)
            .due("end(0, 3)", 103).dues("wheel(0, #)", 0, 0, 3, 3, -1, 0, 0, -1)
            .dues("wheel(1, #)", 3, 0, 3, 3, -1, 0, 0, -1);
    }

    private static void promise12NoSuchWheel() {
        Towns.rich().refusedAll(0, "fault(-1); fault(11); fault(60); fault(LEAST); fault(MOST)").due("fault(10)", 1);
    }

    private static void promise12ItWasBroken() {
        Towns.rich().refusedAll(0, "fault(4); fault(7)").due("fault(8)", 1).refused("fault(8)", 0)
            .due("wheel(8, 6)", 0).due("test(8)", 1).refused("fault(8)", 0).due("wheel(8, 6)", 1)
            .due("mend(8)", 1).due("fault(8)", 1).due("wheel(8, 6)", 0);
    }

    private static void promise12WhereverItIs() {
        Towns.rich().due("fault(0)", 1).due("fault(1)", 1).due("fault(2)", 1).due("fault(6)", 1)
            .refusedAll(0, "fault(0); fault(1); fault(2); fault(6)").dues("wheel(#, 6)", 0, 0, 0, 0, 1, 0, 0, 0)
            .due("count(7)", 1).due("end(0, 0)", 0).due("test(0)", 1).due("test(1)", 1).due("count(7)", 3);
    }

    private static void promise13NoSuchWheel() {
        Towns.rich().refusedAll(-1, "test(-1); test(11); test(60); test(LEAST); test(MOST)").due("test(10)", 0);
    }

    private static void promise13Hired() {
        Towns.rich().does("fault(1);").refusedAll(-1, "test(0); test(1)").due("end(0, 3)", 103)
            .due("test(0)", 0).due("test(1)", 1);
    }

    private static void promise13Broken() {
        Towns.rich().due("count(7)", 1).due("test(7)", 1).due("wheel(7, 6)", 1).due("wheel(7, 5)", 1).due("count(7)", 2)
            .due("test(7)", 1).due("wheel(7, 6)", 1).due("count(7)", 2);
    }

    private static void promise13NotBroken() {
        Towns.rich().due("wheel(2, 5)", 1).due("test(2)", 0).due("wheel(2, 5)", 0).due("wheel(2, 6)", 0)
            .due("test(6)", 0).due("wheel(3, 5)", 1).due("test(3)", 0).due("wheel(3, 5)", 0).due("test(3)", 0);
    }

    private static void promise14NoSuchWheel() {
        Towns.rich().refusedAll(0, "mend(-1); mend(11); mend(60); mend(LEAST); mend(MOST)")
            .does("fault(10);").due("mend(10)", 1);
    }

    private static void promise14Hired() {
        Towns.rich().does("fault(0); fault(1);").refusedAll(0, "mend(0); mend(1)").does("end(0, 3);")
            .due("mend(0)", 1).due("mend(1)", 1).due("test(0)", 0);
    }

    private static void promise14NotBroken() {
        Towns.rich().refusedAll(0, "mend(2); mend(3); mend(6); mend(10)").due("wheel(3, 5)", 1)
            .due("mend(4)", 1).refused("mend(4)", 0);
    }

    private static void promise14KnownOrNot() {
        Towns.rich().due("mend(4)", 1).due("wheel(4, 6)", 0).due("count(7)", 0).due("test(4)", 0)
            .due("wheel(7, 5)", 1).due("mend(7)", 1).due("wheel(7, 5)", 0).due("test(7)", 0)
            .does("fault(2);").due("wheel(2, 5)", 1).due("mend(2)", 1).due("wheel(2, 5)", 0)
            .does("fault(6);").due("mend(6)", 1);
    }

    /** Plain wheels 0 to 4 with a DOUBT of 0, 1, 2, 3, 4. */
    private static Run doubts() {
        Run x = new Run("stand(12); put(0, 0, 11); put(0, 0, 10); put(0, 0, 9); put(0, 0, 8); put(0, 0, 7);");
        for (int w = 4; w >= 0; w--) {
            x.does("put(0, 0, 0); hire(0, 0, NONE); test(" + w + ");");
            for (int above = 4; above > w; above--) {
                x.due("wheel(" + above + ", 5)", above - w);
            }
        }
        return x;
    }

    private static void promise15AboveN() {
        doubts().dues("wheel(#, 5)", 0, 1, 2, 3, 4)
            .dues("doubt(#, 0)", 1, 2, 3, 4, -1).due("doubt(-1, 0)", 0).due("doubt(LEAST, 0)", 0)
            .due("doubt(MOST, 0)", -1);
    }

    private static void promise15TheKth() {
        doubts().dues("doubt(0, #)", 1, 2, 3, 4, -1).dues("doubt(-1, #)", 0, 1, 2, 3, 4, -1).dues("doubt(3, #)", 4, -1)
            .refusedAll(-1, "doubt(-1, -1); doubt(0, LEAST); doubt(0, MOST); doubt(0, 4); doubt(4, 0)");
    }

    private static void promise15InDocksAlone() {
        Towns.rich().dues("doubt(0, #)", 3, 7, -1).due("wheel(2, 5)", 1)
            .dues("doubt(-1, #)", 3, 4, 5, 7, 8, 9, 10, -1)
            .does("pick(1, 0);").dues("doubt(-1, #)", 3, 5, 7, 8, 9, 10, -1);
    }

    private static void promise15None() {
        Run.ofStands(1, 4).dues("doubt(-1, #)", -1, -1).due("doubt(LEAST, 0)", -1)
            .does("put(0, 0, 0);").due("doubt(-1, 0)", 0).due("doubt(0, 0)", -1)
            .does("hire(0, 0, NONE);").due("doubt(-1, 0)", -1);
    }
}
