/** Promises 9 to 15: wheels. */
public final class WheelsTest {
    private static final int LEAST = Integer.MIN_VALUE;
    private static final int MOST = Integer.MAX_VALUE;

    public static void main(String[] args) {
        promise9Put();
        promise9PutCargo();
        promise9PutSixty();
        promise10Charge();
        promise10ChargeRounds();
        promise11Wheel();
        promise12Fault();
        promise13Test();
        promise14Mend();
        promise15Doubt();
        Due.close("WheelsTest");
    }

    private static WheelStands town() {
        WheelStands x = new WheelStands();
        x.stand(4);
        x.stand(3);
        return x;
    }

    private static void promise9Put() {
        WheelStands x = town();
        Due.is("put(-1, 0, 0)", x.put(-1, 0, 0), -1);
        Due.is("put(4, 0, 0)", x.put(4, 0, 0), -1);
        Due.is("put(LEAST, 0, 0)", x.put(LEAST, 0, 0), -1);
        Due.is("put(0, 2, 0)", x.put(0, 2, 0), -1);
        Due.is("put(0, -1, 0)", x.put(0, -1, 0), -1);
        Due.is("put(0, 0, 4)", x.put(0, 0, 4), -1);
        Due.is("put(0, 0, -1)", x.put(0, 0, -1), -1);
        Due.is("put(0, MOST, MOST)", x.put(0, MOST, MOST), -1);
        Due.is("none was put", x.count(1), 0);
        for (int kind = 0; kind < 2; kind++) {
            Due.is("put of kind " + kind, x.put(kind, 0, kind), kind);
        }
        Due.is("put of kind 3", x.put(3, 0, 3), 2);
        Due.is("put where one is", x.put(0, 0, 3), -1);
        x.block(0, 2, true);
        Due.is("put where it is blocked", x.put(0, 0, 2), -1);
        Due.wheel("plain", x, 0, 0, 0, 0, 0, 0, 0, 0, -1, -3);
        Due.wheel("motor", x, 1, 1, 1000, 0, 0, 1, 0, 0, -1, -3);
        Due.wheel("child", x, 2, 3, 0, 0, 0, 3, 0, 0, -1, -3);
    }

    private static void promise9PutCargo() {
        WheelStands x = town();
        Due.is("cargo in the last dock", x.put(2, 0, 3), -1);
        Due.is("cargo before dock 0", x.put(2, 0, -1), -1);
        Due.is("cargo in MOST", x.put(2, 0, MOST), -1);
        x.put(0, 0, 1);
        Due.is("cargo, the second one taken", x.put(2, 0, 0), -1);
        Due.is("cargo, the first one taken", x.put(2, 0, 1), -1);
        x.block(1, 2, true);
        Due.is("cargo, the second one blocked", x.put(2, 1, 1), -1);
        Due.is("cargo, the first one blocked", x.put(2, 1, 2), -1);
        Due.docks("nothing put", x, 1, -1, -1, -2);
        Due.is("cargo", x.put(2, 0, 2), 1);
        Due.wheel("cargo", x, 1, 2, 1000, 0, 0, 2, 0, 0, -1, -3);
        Due.docks("cargo", x, 0, -1, 0, 1, 1);
    }

    private static void promise9PutSixty() {
        WheelStands x = new WheelStands();
        for (int s = 0; s < 6; s++) {
            x.stand(12);
        }
        for (int i = 0; i < 60; i++) {
            Due.is("put no. " + i, x.put(0, i / 12, i % 12), i);
        }
        Due.is("a 61st", x.put(0, 5, 0), -1);
        Due.is("60 wheels", x.count(1), 60);
        Due.is("dock(5, 0)", x.dock(5, 0), -1);
    }

    private static void charges(WheelStands x, int wheel, int bits, int due) {
        int before = x.wheel(wheel, 1);
        Due.is("charge(" + wheel + ", " + bits + ")", x.charge(wheel, bits), due);
        Due.is("charge after " + bits, x.wheel(wheel, 1), due == -1 ? before : due);
    }

    private static void promise10Charge() {
        WheelStands x = town();
        x.put(1, 0, 0);
        x.put(2, 0, 1);
        x.put(0, 1, 0);
        x.put(3, 1, 1);
        for (int wheel = 0; wheel < 2; wheel++) {
            charges(x, wheel, Float.floatToRawIntBits(0.5f), 500);
            charges(x, wheel, Float.floatToRawIntBits(0.25f), 250);
            charges(x, wheel, Float.floatToRawIntBits(1f), 1000);
            charges(x, wheel, Float.floatToRawIntBits(1f) + 1, -1);
            charges(x, wheel, Float.floatToRawIntBits(1f) - 1, 999);
            charges(x, wheel, 0, 0);
            charges(x, wheel, Float.floatToRawIntBits(0.75f), 750);
            charges(x, wheel, LEAST, 0);
            charges(x, wheel, Float.floatToRawIntBits(0.125f), 125);
            charges(x, wheel, LEAST + 1, -1);
            charges(x, wheel, Float.floatToRawIntBits(-0.5f), -1);
            charges(x, wheel, Float.floatToRawIntBits(Float.POSITIVE_INFINITY), -1);
            charges(x, wheel, Float.floatToRawIntBits(Float.NEGATIVE_INFINITY), -1);
            charges(x, wheel, Float.floatToRawIntBits(Float.NaN), -1);
            charges(x, wheel, 0x7F800001, -1);
            charges(x, wheel, MOST, -1);
            charges(x, wheel, -1, -1);
            charges(x, wheel, Float.floatToRawIntBits(Float.MIN_VALUE), 0);
            charges(x, wheel, Float.floatToRawIntBits(Float.MIN_NORMAL), 0);
        }
        charges(x, 2, Float.floatToRawIntBits(0.5f), -1);
        charges(x, 3, Float.floatToRawIntBits(0.5f), -1);
        Due.is("charge(4, 0)", x.charge(4, 0), -1);
        Due.is("charge(-1, 0)", x.charge(-1, 0), -1);
        Due.is("charge(LEAST, LEAST)", x.charge(LEAST, LEAST), -1);
    }

    /** The product is a float, rounded as floats are, before it is cut. */
    private static void promise10ChargeRounds() {
        for (int t = 0; t <= 1000; t++) {
            WheelStands x = town();
            x.put(1, 0, 0);
            int near = Float.floatToRawIntBits(t / 1000f);
            for (int bits = Math.max(0, near - 3); bits <= near + 3; bits++) {
                float value = Float.intBitsToFloat(bits);
                charges(x, 0, bits, value > 1f ? -1 : (int) (value * 1000.0f));
            }
        }
        for (int first = 0; first <= 0x3F800000; first += 100 * 99991) {
            WheelStands x = town();
            x.put(1, 0, 0);
            for (int bits = first; bits <= 0x3F800000 && bits < first + 100 * 99991; bits += 99991) {
                charges(x, 0, bits, (int) (Float.intBitsToFloat(bits) * 1000.0f));
            }
        }
    }

    private static void promise11Wheel() {
        WheelStands x = town();
        x.put(2, 0, 1);
        x.put(3, 0, 0);
        x.put(1, 1, 0);
        x.put(0, 1, 1);
        x.put(0, 1, 2);
        x.length(0, 1, 100);
        x.hire(0, 2, 0);
        Due.wheel("cargo hired with a child", x, 0, 2, 1000, 2, 0, -1, 0, 0, 1, -3);
        Due.wheel("the child", x, 1, 3, 0, 2, 0, -1, 0, 0, 0, -3);
        x.end(0, 1);
        Due.wheel("cargo on the street", x, 0, 2, 700, 3, 1, -1, 0, 0, -1, -3);
        Due.wheel("the child on the street", x, 1, 3, 0, 3, 1, -1, 0, 0, -1, -3);
        x.cart(3, 0);
        x.cart(3, 1);
        x.fetch(1, 1);
        x.pick(1, 2);
        Due.wheel("child on a cart", x, 1, 3, 0, 1, -1, 1, 0, 0, -1, -3);
        Due.wheel("plain on a cart", x, 4, 0, 0, 1, -1, 1, 0, 0, -1, -3);
        x.hire(1, 0, -1);
        Due.is("a hired motor's stand", x.wheel(2, 3), 1);
        Due.is("a doubt", x.wheel(3, 5), 1);
        x.fault(3);
        Due.wheel("a fault that is not known", x, 3, 0, 0, 0, 1, 1, 1, 0, -1, -3);
        x.test(3);
        Due.wheel("a fault that is known", x, 3, 0, 0, 0, 1, 1, 1, 1, -1, -3);
        for (int what : new int[] {-1, 8, LEAST, MOST}) {
            Due.is("wheel(0, " + what + ")", x.wheel(0, what), -3);
        }
        Due.is("wheel(5, 0)", x.wheel(5, 0), -3);
        Due.is("wheel(-1, 0)", x.wheel(-1, 0), -3);
        Due.is("wheel(MOST, 0)", x.wheel(MOST, 0), -3);
    }

    private static void promise12Fault() {
        WheelStands x = town();
        x.put(0, 0, 0);
        x.put(0, 0, 1);
        Due.no("fault(2)", x.fault(2));
        Due.no("fault(-1)", x.fault(-1));
        Due.no("fault(LEAST)", x.fault(LEAST));
        Due.yes("fault(0)", x.fault(0));
        Due.is("not known", x.wheel(0, 6), 0);
        Due.is("none is known", x.count(7), 0);
        Due.no("fault(0) again", x.fault(0));
        x.test(0);
        Due.no("fault(0), known", x.fault(0));
        Due.is("it stays known", x.wheel(0, 6), 1);
        x.mend(0);
        Due.yes("fault(0), mended", x.fault(0));
        Due.is("not known any more", x.wheel(0, 6), 0);
        x.hire(0, 1, -1);
        Due.yes("fault of a hired one", x.fault(1));
        x.end(1, 0);
        Due.is("a broken one is not hired", x.hire(0, 1, -1), -3);
    }

    private static void promise13Test() {
        WheelStands x = town();
        x.put(0, 0, 0);
        x.put(0, 0, 1);
        x.put(0, 0, 2);
        Due.is("test(3)", x.test(3), -1);
        Due.is("test(-1)", x.test(-1), -1);
        Due.is("test(MOST)", x.test(MOST), -1);
        x.fault(1);
        x.fault(2);
        x.hire(0, 0, -1);
        Due.is("test of a hired one", x.test(0), -1);
        Due.is("a doubt", x.wheel(1, 5), 1);
        Due.is("test of a broken one", x.test(1), 1);
        Due.is("known", x.wheel(1, 6), 1);
        Due.is("the other one is not known", x.wheel(2, 6), 0);
        Due.is("the doubt stays", x.wheel(1, 5), 1);
        Due.is("test of it again", x.test(1), 1);
        x.end(0, 1);
        x.mend(1);
        x.put(0, 1, 1);
        x.hire(1, 1, -1);
        Due.is("a doubt of 0", x.wheel(0, 5), 1);
        Due.is("test of a sound one", x.test(0), 0);
        Due.is("no doubt", x.wheel(0, 5), 0);
        Due.is("not known", x.wheel(0, 6), 0);
        x.cart(1, 1);
        x.pick(0, 0);
        x.fault(0);
        Due.is("test on a cart", x.test(0), 1);
    }

    private static void promise14Mend() {
        WheelStands x = town();
        x.put(0, 0, 0);
        x.put(0, 0, 1);
        Due.no("mend(2)", x.mend(2));
        Due.no("mend(-1)", x.mend(-1));
        Due.no("mend(LEAST)", x.mend(LEAST));
        Due.no("mend of a sound one", x.mend(0));
        x.hire(0, 1, -1);
        Due.is("a doubt", x.wheel(0, 5), 1);
        Due.no("mend of a sound one in doubt", x.mend(0));
        Due.is("the doubt stays", x.wheel(0, 5), 1);
        x.fault(0);
        Due.yes("mend(0), not known", x.mend(0));
        Due.is("no doubt", x.wheel(0, 5), 0);
        Due.no("mend(0) again", x.mend(0));
        x.fault(0);
        x.test(0);
        Due.yes("mend(0), known", x.mend(0));
        Due.is("not known", x.wheel(0, 6), 0);
        Due.is("none is known", x.count(7), 0);
        Due.is("it is hired", x.hire(0, 0, -1), 0);
        x.fault(0);
        Due.no("mend of a hired one", x.mend(0));
        x.end(0, 0);
        Due.is("it is still broken", x.test(0), 1);
        Due.yes("mend in a dock", x.mend(0));
    }

    private static void promise15Doubt() {
        WheelStands x = town();
        for (int d = 0; d < 4; d++) {
            x.put(0, 0, 3 - d);
        }
        x.put(2, 1, 0);
        Due.is("none is in doubt", x.doubt(0, 0), -1);
        for (int k = 0; k < 5; k++) {
            Due.is("doubt(-1, " + k + ")", x.doubt(-1, k), k);
        }
        Due.is("doubt(-1, 5)", x.doubt(-1, 5), -1);
        Due.is("doubt(LEAST, 4)", x.doubt(LEAST, 4), 4);
        x.hire(0, 2, -1);
        x.hire(0, 0, -1);
        Due.is("the first with more than 1", x.doubt(1, 0), 0);
        Due.is("the second with more than 1", x.doubt(1, 1), 2);
        Due.is("the third with more than 1", x.doubt(1, 2), -1);
        Due.is("more than 2", x.doubt(2, 0), -1);
        Due.is("doubt(-1, 2): hired ones do not count", x.doubt(-1, 2), 4);
        x.cart(2, 0);
        x.pick(0, 3);
        Due.is("one on a cart does not count", x.doubt(1, 0), 2);
        Due.is("doubt(1, -1)", x.doubt(1, -1), -1);
        Due.is("doubt(-1, LEAST)", x.doubt(-1, LEAST), -1);
        Due.is("doubt(MOST, 0)", x.doubt(MOST, 0), -1);
        Due.is("doubt(0, MOST)", x.doubt(0, MOST), -1);
    }
}
