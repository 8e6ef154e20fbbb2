/** Promises 19 to 24: carts. */
public final class CartsTest {
    private static final int LEAST = Integer.MIN_VALUE;
    private static final int MOST = Integer.MAX_VALUE;

    public static void main(String[] args) {
        promise19Cart();
        promise20Drive();
        promise21Pick();
        promise21PickWithinLoad();
        promise22Fetch();
        promise23Drop();
        promise23DropTakesDoubt();
        promise24Load();
        Due.close("CartsTest");
    }

    private static void promise19Cart() {
        WheelStands x = Due.stands(2, 2);
        Due.is("cart(0, 0)", x.cart(0, 0), -1);
        Due.is("cart(9, 0)", x.cart(9, 0), -1);
        Due.is("cart(-1, 0)", x.cart(-1, 0), -1);
        Due.is("cart(1, 2)", x.cart(1, 2), -1);
        Due.is("cart(1, -1)", x.cart(1, -1), -1);
        Due.is("cart(LEAST, MOST)", x.cart(LEAST, MOST), -1);
        Due.is("no carts", x.count(2), 0);
        Due.is("cart(1, 0)", x.cart(1, 0), 0);
        Due.is("cart(8, 1)", x.cart(8, 1), 1);
        Due.is("cart(3, 1)", x.cart(3, 1), 2);
        Due.is("a fourth", x.cart(3, 1), -1);
        Due.is("three carts", x.count(2), 3);
        Due.loads("of the second", x, 1, 8, 1, 0, 0, -1);
    }

    private static void promise20Drive() {
        WheelStands x = Due.stands(2, 2, 2);
        x.length(0, 1, 5);
        x.length(1, 2, 7);
        x.cart(1, 0);
        x.cart(1, 2);
        Due.is("drive(0, 1)", x.drive(0, 1), 5);
        Due.is("drive(0, 2)", x.drive(0, 2), 12);
        Due.is("drive(0, 2), there already", x.drive(0, 2), 12);
        Due.is("drive(0, 0)", x.drive(0, 0), 1011);
        Due.is("drive(1, 1)", x.drive(1, 1), 7);
        Due.is("drive(2, 1)", x.drive(2, 1), -1);
        Due.is("drive(-1, 1)", x.drive(-1, 1), -1);
        Due.is("drive(0, 3)", x.drive(0, 3), -1);
        Due.is("drive(0, -1)", x.drive(0, -1), -1);
        Due.is("drive(MOST, LEAST)", x.drive(MOST, LEAST), -1);
        Due.loads("it stays", x, 0, 1, 0, 0, 1011);
        x.put(1, 1, 0);
        x.pick(1, 0);
        x.drive(1, 0);
        Due.is("no charge is taken on a cart", x.wheel(0, 1), 1000);
    }

    private static void promise21Pick() {
        WheelStands x = Due.stands(4, 3);
        x.cart(8, 0);
        x.put(0, 0, 0);
        x.put(2, 0, 1);
        x.put(3, 1, 2);
        x.block(0, 3, true);
        x.fault(0);
        Due.is("pick(1, 0)", x.pick(1, 0), -1);
        Due.is("pick(-1, 0)", x.pick(-1, 0), -1);
        Due.is("pick(0, 4)", x.pick(0, 4), -1);
        Due.is("pick(0, -1)", x.pick(0, -1), -1);
        Due.is("pick(LEAST, MOST)", x.pick(LEAST, MOST), -1);
        Due.is("a blocked dock", x.pick(0, 3), -1);
        Due.is("cargo by its second dock", x.pick(0, 2), 1);
        Due.docks("both docks are free", x, 0, 0, -1, -1, -2);
        Due.is("a free dock", x.pick(0, 2), -1);
        Due.is("a broken one", x.pick(0, 0), 0);
        x.drive(0, 1);
        Due.is("a child", x.pick(0, 2), 2);
        Due.loads("in order", x, 0, 8, 1, 4, 999, 1, 0, 2, -1);
        Due.is("on carts", x.count(4), 3);
        Due.wheel("cargo on a cart", x, 1, 2, 1000, 1, -1, 0, 0, 0, -1);
    }

    private static void promise21PickWithinLoad() {
        WheelStands x = Due.stands(6);
        x.cart(3, 0);
        x.cart(1, 0);
        x.put(2, 0, 0);
        x.put(2, 0, 2);
        x.put(0, 0, 4);
        x.put(0, 0, 5);
        Due.is("cargo on a load of 1", x.pick(1, 0), -1);
        Due.is("cargo", x.pick(0, 0), 0);
        Due.is("another cargo", x.pick(0, 2), -1);
        Due.is("it stays in its docks", x.dock(0, 3), 1);
        Due.is("plain", x.pick(0, 4), 2);
        Due.is("one too many", x.pick(0, 5), -1);
        Due.is("on the other cart", x.pick(1, 5), 3);
        Due.is("all of the load", x.load(0, 2), 3);
        WheelStands y = Due.stands(12);
        y.cart(8, 0);
        for (int d = 0; d < 9; d++) {
            y.put(0, 0, d);
            Due.is("pick " + d, y.pick(0, d), d < 8 ? d : -1);
        }
    }

    private static WheelStands streets() {
        WheelStands x = Due.stands(4, 2);
        x.put(2, 0, 0);
        x.put(3, 0, 2);
        x.put(0, 0, 3);
        x.put(0, 1, 0);
        x.put(0, 1, 1);
        x.length(0, 1, 100);
        x.hire(0, 0, 2);
        x.end(0, 1);
        x.hire(0, 3, -1);
        x.end(2, 1);
        return x;
    }

    private static void promise22Fetch() {
        WheelStands x = streets();
        x.cart(3, 0);
        x.cart(2, 1);
        Due.no("at another stand", x.fetch(0, 0));
        Due.no("in a dock", x.fetch(1, 3));
        Due.no("fetch(2, 0)", x.fetch(2, 0));
        Due.no("fetch(-1, 0)", x.fetch(-1, 0));
        Due.no("fetch(1, 5)", x.fetch(1, 5));
        Due.no("fetch(1, -1)", x.fetch(1, -1));
        Due.no("fetch(MOST, LEAST)", x.fetch(MOST, LEAST));
        Due.yes("a child", x.fetch(1, 1));
        Due.no("it is on the cart", x.fetch(1, 1));
        Due.no("cargo, too much", x.fetch(1, 0));
        Due.yes("plain", x.fetch(1, 2));
        Due.is("one on the street", x.tell(1, 7), 1);
        x.drive(0, 1);
        Due.no("on another cart", x.fetch(0, 1));
        Due.yes("cargo", x.fetch(0, 0));
        Due.loads("cargo counts two", x, 0, 3, 1, 2, 100, 0, -1);
        Due.loads("in order", x, 1, 2, 1, 2, 0, 1, 2, -1);
        Due.wheel("cargo on the cart", x, 0, 2, 700, 1, -1, 0, 0, 0, -1);
        Due.is("none on streets", x.count(6), 0);
    }

    private static void promise23Drop() {
        WheelStands x = Due.stands(5, 3);
        x.cart(5, 0);
        x.put(2, 0, 0);
        x.put(0, 0, 2);
        x.put(3, 0, 3);
        Due.is("drop(1)", x.drop(1), -1);
        Due.is("drop(-1)", x.drop(-1), -1);
        Due.is("drop(LEAST)", x.drop(LEAST), -1);
        Due.is("nothing on it", x.drop(0), -1);
        x.pick(0, 2);
        x.pick(0, 0);
        x.pick(0, 3);
        x.drive(0, 1);
        x.block(1, 1, true);
        Due.is("plain goes first", x.drop(0), 0);
        Due.is("no room for the cargo", x.drop(0), -1);
        Due.loads("it stays on the cart", x, 0, 5, 1, 3, 999, 0, 2, -1);
        x.block(1, 1, false);
        Due.is("cargo goes in two docks", x.drop(0), 1);
        Due.docks("plain and cargo", x, 1, 1, 0, 0);
        Due.is("no room for the child", x.drop(0), -1);
        x.drive(0, 0);
        x.block(0, 0, true);
        Due.is("the least free dock", x.drop(0), 1);
        Due.wheel("the child", x, 2, 3, 0, 0, 0, 1, 0, 0, -1);
        Due.loads("empty", x, 0, 5, 0, 0, 1998, -1);
    }

    private static void promise23DropTakesDoubt() {
        WheelStands x = Due.stands(4, 4);
        x.put(0, 0, 0);
        x.put(0, 0, 1);
        x.put(0, 0, 2);
        x.hire(0, 0, -1);
        x.cart(2, 0);
        x.pick(0, 1);
        Due.is("the doubt stays on the cart", x.wheel(1, 5), 1);
        Due.is("drop", x.drop(0), 0);
        Due.is("no doubt", x.wheel(1, 5), 0);
        Due.is("the other one's doubt stays", x.wheel(2, 5), 1);
        x.fault(2);
        x.test(2);
        x.pick(0, 2);
        x.drop(0);
        Due.is("a drop mends nothing", x.wheel(2, 6), 1);
        Due.is("no doubt of a broken one", x.wheel(2, 5), 0);
    }

    private static void promise24Load() {
        WheelStands x = Due.stands(4, 4);
        x.cart(4, 1);
        x.put(2, 1, 0);
        x.put(0, 1, 2);
        x.pick(0, 0);
        x.pick(0, 2);
        x.drive(0, 0);
        Due.loads("filled", x, 0, 4, 0, 3, 999, 0, 1, -1, -1, -1, -1, -1, -1, -1, -1, -1);
        Due.is("load(0, MOST)", x.load(0, MOST), -1);
        Due.is("load(0, -1)", x.load(0, -1), -3);
        Due.is("load(0, LEAST)", x.load(0, LEAST), -3);
        Due.is("load(1, 0)", x.load(1, 0), -3);
        Due.is("load(1, 4)", x.load(1, 4), -3);
        Due.is("load(-1, 0)", x.load(-1, 0), -3);
        Due.is("load(MOST, MOST)", x.load(MOST, MOST), -3);
        x.drop(0);
        Due.loads("the second is first now", x, 0, 4, 0, 1, 999, 1, -1);
    }
}
