/** A town in which all is at its most: no call reaches beyond what there may be. */
public final class FullTownTest {
    public static void main(String[] args) {
        WheelStands x = fullTown();
        tellsAll("full", x);
        hires(x);
        cartsAndRounds(x);
        wrongNumbers(x);
        tellsAll("at the end", x);
        Due.close("FullTownTest");
    }

    /** 12 stands of 12 docks, wheels in the last ones too, every row full, four images. */
    private static WheelStands fullTown() {
        WheelStands x = new WheelStands();
        for (int s = 0; s < 12; s++) {
            Due.is("stand", x.stand(12), s);
        }
        for (int w = 0; w < 60; w++) {
            Due.is("put", x.put(w % 4 == 2 ? 0 : w % 4, w / 12 < 4 ? w / 12 : 11, w % 12), w);
        }
        for (int s = 0; s < 12; s++) {
            for (int n = 1; n <= 8; n++) {
                Due.is("next", x.next(s, (s + n) % 12), n);
            }
            for (int h = 0; h < 24; h++) {
                Due.yes("demand", x.demand(s, h, 99, 99));
            }
        }
        for (int c = 0; c < 3; c++) {
            Due.is("cart", x.cart(8, 11), c);
        }
        for (int k = 0; k < 4; k++) {
            Due.yes("image", x.image(k));
            Due.yes("again", x.again(k));
        }
        return x;
    }

    private static void tellsAll(String call, WheelStands x) {
        int sum = 0;
        for (int a = -1; a <= 61; a++) {
            for (int b = -1; b <= 61; b++) {
                sum += x.dock(a, b) + x.tell(a, b) + x.wheel(a, b) + x.load(a, b) + x.doubt(a, b) + x.runs(a, b, 0);
            }
            sum += x.round(a) + x.count(a) + x.shortage(a);
        }
        int once = sum;
        for (int a = -1; a <= 61; a++) {
            for (int b = -1; b <= 61; b++) {
                sum -= x.dock(a, b) + x.tell(a, b) + x.wheel(a, b) + x.load(a, b) + x.doubt(a, b) + x.runs(a, b, 0);
            }
            sum -= x.round(a) + x.count(a) + x.shortage(a);
        }
        Due.is(call + ": all told twice, and nothing has changed (" + once + ")", sum, 0);
    }

    private static void hires(WheelStands x) {
        Due.is("a full stand and a row of eight", x.hire(11, 0, 3), 48);
        for (int d = 0; d < 12; d++) {
            for (int s = 4; s < 11; s++) {
                x.block(s, d, true);
            }
            x.block(11, d, true);
        }
        Due.is("eight others are full", x.end(48, 3), 111);
        for (int s = 3; s <= 11; s++) {
            Due.is("failed", x.tell(s, 4), 1);
        }
        Due.is("on the street", x.tell(11, 7), 2);
        for (int d = 0; d < 12; d++) {
            for (int s = 4; s < 11; s++) {
                x.block(s, d, false);
            }
        }
        Due.is("hour", x.hour(), 1);
        Due.is("the last in a dock", x.doubt(0, 9), 59);
    }

    private static void cartsAndRounds(WheelStands x) {
        for (int d = 4; d < 12; d++) {
            Due.is("pick", x.pick(2, d), 48 + d);
        }
        Due.no("the load is taken", x.fetch(2, 48));
        Due.is("the last on it", x.load(2, 11), 59);
        Due.is("none behind it", x.load(2, 12), -1);
        x.drive(2, 10);
        for (int d = 0; d < 8; d++) {
            Due.is("drop", x.drop(2), d);
        }
        Due.is("drop of none", x.drop(2), -1);
        for (int s = 0; s < 4; s++) {
            x.want(s, s == 3 ? 5 : 11);
        }
        x.want(5, 7);
        x.want(10, 9);
        x.want(7, 2);
        Due.is("seven stands at the greatest length", x.plan(0), 7 * 999);
        Due.round("the load tells the order", x, 0, 1, 2, 7, 3, 5, 10);
        Due.is("a load of 8, carried at last", x.carry(2), 6 * 999 + 999);
        Due.is("none is out of balance", x.plan(1), 0);
        Due.is("60 wheels still", x.count(3) + x.count(4) + x.count(5) + x.count(6), 60);
    }

    private static void wrongNumbers(WheelStands x) {
        int[] wrong = {Integer.MIN_VALUE, -7, -2, -1, 60, 61, 100, Integer.MAX_VALUE};
        for (int a : wrong) {
            for (int b : wrong) {
                Due.no("wrong numbers", x.length(a, b, 1) || x.tear(a, b) || x.block(a, b, true) || x.fault(a)
                        || x.mend(a) || x.fetch(a, b) || x.demand(a, b, 0, 0) || x.want(a, b) || x.image(a)
                        || x.again(a));
                Due.is("wrong numbers", Math.max(Math.max(x.next(a, b), x.put(0, a, b)), x.charge(a, b)), -1);
                Due.is("wrong numbers", Math.max(Math.max(x.hire(a, b, -1), x.end(a, b)), x.cart(a, b)), -1);
                Due.is("wrong numbers", Math.max(Math.max(x.drive(a, b), x.pick(a, b)), x.drop(a)), -1);
                Due.is("wrong numbers", Math.max(Math.max(x.plan(a), x.carry(a)), x.test(a)), -1);
                Due.is("wrong numbers", Math.max(Math.max(x.stand(a), x.put(a, 0, 0)), x.pick(0, b)), -1);
            }
        }
    }
}
