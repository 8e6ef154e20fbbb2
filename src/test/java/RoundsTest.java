/** Promises 28 to 31: rounds. */
public final class RoundsTest {
    private static final int LEAST = Integer.MIN_VALUE;
    private static final int MOST = Integer.MAX_VALUE;

    public static void main(String[] args) {
        promise28Want();
        promise29Plan();
        promise29PlanOfNothing();
        promise29Refused();
        promise29MoreThanSeven();
        promise29NotEnoughRoom();
        promise29NoSuchRound();
        promise29LoadTellsTheOrder();
        promise29TheLeastOfSeveral();
        promise29CargoIsNotMoved();
        promise30RoundStays();
        promise31Carry();
        promise31CarryOrder();
        promise31CarryRefused();
        promise31CarryKeepsDoubt();
        Due.close("RoundsTest");
    }

    private static void fill(WheelStands x, int stand, int n) {
        for (int d = 0; d < n; d++) {
            x.put(0, stand, d);
        }
    }

    private static void promise28Want() {
        WheelStands x = Due.stands(2);
        Due.is("nothing told at first", x.tell(0, 5), -1);
        Due.yes("want(0, 12)", x.want(0, 12));
        Due.is("12", x.tell(0, 5), 12);
        Due.yes("want(0, 0)", x.want(0, 0));
        Due.is("0", x.tell(0, 5), 0);
        Due.no("want(0, 13)", x.want(0, 13));
        Due.no("want(0, -2)", x.want(0, -2));
        Due.no("want(1, 3)", x.want(1, 3));
        Due.no("want(-1, 3)", x.want(-1, 3));
        Due.no("want(MOST, LEAST)", x.want(MOST, LEAST));
        Due.is("still 0", x.tell(0, 5), 0);
        Due.yes("want(0, NONE)", x.want(0, -1));
        Due.is("nothing told", x.tell(0, 5), -1);
        Due.yes("want(0, NONE) again", x.want(0, -1));
    }

    private static WheelStands three() {
        WheelStands x = Due.stands(4, 4, 4, 4);
        fill(x, 1, 3);
        x.want(1, 1);
        x.want(2, 1);
        x.want(3, 1);
        x.length(0, 1, 10);
        x.length(1, 2, 20);
        x.length(1, 3, 21);
        x.length(2, 3, 5);
        x.cart(2, 0);
        return x;
    }

    private static void promise29Plan() {
        WheelStands x = three();
        Due.is("plan(0)", x.plan(0), 35);
        Due.round("1, 2, 3", x, 1, 2, 3);
        x.length(1, 2, 22);
        Due.is("plan(0) anew", x.plan(0), 36);
        Due.round("1, 3, 2", x, 1, 3, 2);
        Due.loads("a plan moves nothing", x, 0, 2, 0, 0, 0, -1);
        x.drive(0, 1);
        Due.is("from the first itself", x.plan(0), 26);
        Due.round("1, 3, 2 again", x, 1, 3, 2);
        x.want(3, -1);
        x.want(2, 2);
        Due.is("two at 2", x.plan(0), 22);
        Due.round("1, 2", x, 1, 2);
    }

    private static void promise29PlanOfNothing() {
        WheelStands x = three();
        x.plan(0);
        x.want(1, 3);
        x.want(2, 0);
        x.want(3, -1);
        Due.is("no stand is out of balance", x.plan(0), 0);
        Due.round("no stands", x);
        Due.is("carry of nothing", x.carry(0), 0);
        Due.loads("it stays", x, 0, 2, 0, 0, 0, -1);
        Due.is("no such cart", x.plan(1), -1);
    }

    private static void promise29Refused() {
        WheelStands x = three();
        x.plan(0);
        Due.is("plan(1)", x.plan(1), -1);
        Due.is("plan(-1)", x.plan(-1), -1);
        Due.is("plan(MOST)", x.plan(MOST), -1);
        Due.round("what was at hand stays", x, 1, 2, 3);
        x.drive(0, 1);
        x.pick(0, 0);
        Due.is("it is not empty", x.plan(0), -1);
        Due.round("what was at hand still stays", x, 1, 2, 3);
        x.want(1, -1);
        x.want(2, -1);
        x.want(3, -1);
        Due.is("nor empty where nothing is out of balance", x.plan(0), -1);
        x.drop(0);
        Due.is("empty", x.plan(0), 0);
        Due.round("no stands", x);
    }

    /** Stand 0 has some to spare, the next n want one each. */
    private static WheelStands star(int n) {
        WheelStands x = Due.stands(12, 2, 2, 2, 2, 2, 2, 2, 2);
        fill(x, 0, n);
        x.want(0, 0);
        for (int s = 1; s <= n; s++) {
            x.want(s, 1);
            x.length(s - 1, s, 1 + s);
        }
        x.cart(8, 0);
        return x;
    }

    private static void promise29MoreThanSeven() {
        WheelStands x = star(6);
        Due.is("seven stands", x.plan(0), 2 + 3 + 4 + 5 + 6 + 7);
        Due.round("seven stands", x, 0, 1, 2, 3, 4, 5, 6);
        x = star(7);
        Due.is("eight stands", x.plan(0), -1);
        Due.is("eight stands: carry", x.carry(0), -1);
        Due.round("none at hand", x);
        x.want(7, -1);
        Due.is("a wheel too many", x.plan(0), -1);
        x.want(0, 1);
        Due.is("seven again", x.plan(0), 27);
        x.want(8, 1);
        Due.is("seven in balance, and an eighth", x.plan(0), -1);
        Due.round("the seven are at hand", x, 0, 1, 2, 3, 4, 5, 6);
    }

    private static void promise29NotEnoughRoom() {
        WheelStands x = Due.stands(4, 3);
        fill(x, 0, 3);
        x.put(2, 1, 0);
        x.cart(8, 0);
        x.want(0, 1);
        x.want(1, 2);
        Due.is("two are missing, one dock is free", x.plan(0), -1);
        x.want(0, 2);
        x.want(1, 1);
        Due.is("one is missing", x.plan(0), 999);
        x.block(1, 2, true);
        Due.is("a blocked one is not free", x.plan(0), -1);
        Due.round("what was at hand stays", x, 0, 1);
        x.block(1, 2, false);
        x.stand(3);
        x.want(2, 4);
        Due.is("two in balance, and a third without room", x.plan(0), -1);
        Due.is("two in balance, and a third without room: carry", x.carry(0), -1);
        x.want(2, 3);
        x.want(0, 0);
        x.want(1, -1);
        Due.is("just room", x.plan(0), 999);
    }

    private static void promise29NoSuchRound() {
        WheelStands x = three();
        x.want(1, 0);
        Due.is("one is left", x.plan(0), -1);
        x.want(1, 2);
        Due.is("one is missing", x.plan(0), -1);
        x.want(1, 1);
        Due.is("even", x.plan(0), 35);
        x.want(2, -1);
        x.want(3, 2);
        Due.is("two at once", x.plan(0), 31);
        WheelStands y = Due.stands(4, 4);
        fill(y, 0, 3);
        y.want(0, 0);
        y.want(1, 3);
        y.cart(2, 0);
        y.cart(3, 0);
        Due.is("a load of 2 is too little", y.plan(0), -1);
        Due.is("one of 3 is enough", y.plan(1), 999);
    }

    private static void promise29LoadTellsTheOrder() {
        WheelStands x = Due.stands(4, 4, 4, 4);
        fill(x, 0, 2);
        fill(x, 1, 2);
        x.want(0, 0);
        x.want(1, 0);
        x.want(2, 2);
        x.want(3, 2);
        x.length(0, 1, 1);
        x.length(2, 3, 1);
        x.length(0, 2, 50);
        x.length(1, 3, 60);
        x.length(0, 3, 70);
        x.length(1, 2, 40);
        x.cart(4, 0);
        x.cart(2, 0);
        Due.is("load 4: both first", x.plan(0), 1 + 40 + 1);
        Due.round("load 4", x, 0, 1, 2, 3);
        Due.is("load 2: by turns", x.plan(1), 50 + 40 + 60);
        Due.round("load 2", x, 0, 2, 1, 3);
    }

    private static void promise29TheLeastOfSeveral() {
        WheelStands x = Due.stands(4, 4, 4, 4, 4);
        fill(x, 4, 4);
        x.want(4, 0);
        for (int s = 0; s < 4; s++) {
            x.want(s, 1);
        }
        x.cart(8, 2);
        Due.is("all are 999", x.plan(0), 5 * 999);
        Due.round("in order of numbers", x, 4, 0, 1, 2, 3);
        x.length(4, 1, 500);
        Due.is("a shorter one", x.plan(0), 4 * 999 + 500);
        Due.round("1 first, then in order", x, 4, 1, 0, 2, 3);
        x.length(3, 2, 500);
        Due.is("two shorter ones", x.plan(0), 3 * 999 + 1000);
        Due.round("0 before 2 and 3", x, 4, 1, 0, 2, 3);
        x.drive(0, 4);
        Due.is("from where it begins", x.plan(0), 2 * 999 + 1000);
        WheelStands y = Due.stands(4, 4, 4);
        fill(y, 0, 1);
        fill(y, 1, 1);
        y.want(0, 0);
        y.want(1, 0);
        y.want(2, 2);
        y.cart(2, 2);
        y.length(0, 2, 10);
        y.length(1, 2, 10);
        y.length(0, 1, 3);
        Due.is("there and back either way", y.plan(0), 23);
        Due.round("0 first", y, 0, 1, 2);
    }

    private static void promise29CargoIsNotMoved() {
        WheelStands x = Due.stands(6, 4);
        x.put(2, 0, 0);
        x.put(3, 0, 2);
        x.put(1, 0, 3);
        x.want(0, 2);
        x.cart(4, 0);
        Due.is("in balance", x.plan(0), 0);
        x.want(0, 1);
        x.want(1, 1);
        Due.is("carry", x.carry(0), 999);
        Due.docks("the cargo stays, the child goes", x, 0, 0, 0, -1, 2, -1, -1);
        Due.docks("the child", x, 1, 1, -1, -1, -1);
    }

    private static void promise30RoundStays() {
        WheelStands x = three();
        x.plan(0);
        x.drive(0, 3);
        x.want(2, -1);
        x.hour();
        Due.round("as it was planned", x, 1, 2, 3);
        Due.is("round(LEAST)", x.round(LEAST), -1);
        Due.is("round(MOST)", x.round(MOST), -1);
        Due.is("round(7)", x.round(7), -1);
    }

    private static void promise31Carry() {
        WheelStands x = three();
        Due.is("carry", x.carry(0), 35);
        Due.round("at hand", x, 1, 2, 3);
        Due.docks("those from dock 0 on are taken", x, 1, -1, -1, 2, -1);
        Due.docks("the first is given", x, 2, 0, -1, -1, -1);
        Due.docks("then the second", x, 3, 1, -1, -1, -1);
        Due.loads("at the last stand", x, 0, 2, 3, 0, 35, -1);
        Due.wheel("given", x, 1, 0, 0, 0, 3, 0, 0, 0, -1);
        Due.is("carry again", x.carry(0), 0);
        Due.round("nothing is out of balance", x);
        x.want(3, 0);
        x.want(1, 2);
        Due.is("back", x.carry(0), 21);
        Due.loads("it has gone both lengths", x, 0, 2, 1, 0, 56, -1);
        Due.docks("in the least free dock", x, 1, 1, -1, 2, -1);
    }

    private static void promise31CarryOrder() {
        WheelStands x = Due.stands(4, 4, 6);
        x.put(3, 1, 2);
        x.put(0, 0, 3);
        x.put(1, 0, 1);
        x.fault(2);
        x.block(2, 1, true);
        x.put(0, 2, 2);
        x.want(0, 0);
        x.want(1, 0);
        x.want(2, 4);
        x.length(0, 1, 3);
        x.length(1, 2, 4);
        x.cart(3, 0);
        Due.is("carry", x.carry(0), 7);
        Due.docks("in order to room", x, 2, 2, -2, 3, 1, 0, -1);
        Due.is("a broken one goes too", x.test(2), 1);
    }

    private static void promise31CarryRefused() {
        WheelStands x = three();
        x.plan(0);
        Due.is("carry(1)", x.carry(1), -1);
        Due.is("carry(-1)", x.carry(-1), -1);
        Due.is("carry(LEAST)", x.carry(LEAST), -1);
        x.want(1, 0);
        Due.is("no such round", x.carry(0), -1);
        Due.round("what was at hand stays", x, 1, 2, 3);
        Due.loads("it stays", x, 0, 2, 0, 0, 0, -1);
        Due.docks("nothing is taken", x, 1, 0, 1, 2, -1);
        x.want(1, 2);
        x.want(2, -1);
        x.drive(0, 1);
        x.pick(0, 0);
        Due.is("it is not empty", x.carry(0), -1);
    }

    /** The document lets the doubt fall with drop() alone, and says nothing of it where a round gives. */
    private static void promise31CarryKeepsDoubt() {
        WheelStands x = Due.stands(4, 4);
        x.put(0, 0, 0);
        x.put(0, 0, 1);
        x.hire(0, 1, -1);
        x.want(0, 0);
        x.want(1, 1);
        x.cart(1, 0);
        Due.is("carry", x.carry(0), 999);
        Due.is("the doubt", x.wheel(0, 5), 1);
    }
}
