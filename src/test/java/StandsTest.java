/** Promises 1 to 8: a new object, and stands. */
public final class StandsTest {
    private static final int LEAST = Integer.MIN_VALUE;
    private static final int MOST = Integer.MAX_VALUE;

    public static void main(String[] args) {
        promise1NewObject();
        promise2Stand();
        promise3Length();
        promise3LengthIsTheSameBothWays();
        promise4Next();
        promise5TearRow();
        promise5TearDemand();
        promise6Block();
        promise7Dock();
        promise8Tell();
        Due.close("StandsTest");
    }

    private static void promise1NewObject() {
        WheelStands x = new WheelStands();
        Due.is("NONE", WheelStands.NONE, -1);
        for (int what = 0; what <= 8; what++) {
            Due.is("new: count(" + what + ")", x.count(what), 0);
        }
        for (int k = 0; k < 4; k++) {
            Due.no("new: again(" + k + ")", x.again(k));
        }
        Due.is("new: tell(0, 0)", x.tell(0, 0), -3);
        Due.is("new: wheel(0, 0)", x.wheel(0, 0), -3);
        Due.is("new: load(0, 0)", x.load(0, 0), -3);
        Due.is("new: dock(0, 0)", x.dock(0, 0), -3);
        Due.round("new", x);
        Due.is("new: hour()", x.hour(), 1);
        Due.is("another new one: count(8)", new WheelStands().count(8), 0);
    }

    private static void promise2Stand() {
        WheelStands x = new WheelStands();
        for (int n : new int[] {1, 0, -1, 13, LEAST, MOST}) {
            Due.is("stand(" + n + ")", x.stand(n), -1);
        }
        Due.is("none made: count(0)", x.count(0), 0);
        for (int i = 0; i < 12; i++) {
            int n = i == 11 ? 2 : 12 - i;
            Due.is("stand(" + n + ")", x.stand(n), i);
            Due.is("docks of " + i, x.tell(i, 0), n);
        }
        Due.is("a 13th stand", x.stand(5), -1);
        Due.is("12 made: count(0)", x.count(0), 12);
    }

    private static WheelStands threeStands() {
        WheelStands x = new WheelStands();
        x.stand(3);
        x.stand(3);
        x.stand(3);
        return x;
    }

    private static void promise3Length() {
        WheelStands x = threeStands();
        Due.yes("length(0, 1, 1)", x.length(0, 1, 1));
        Due.yes("length(0, 1, 999)", x.length(0, 1, 999));
        Due.yes("length(0, 1, 999) once more", x.length(0, 1, 999));
        Due.yes("length(0, 1, 7)", x.length(0, 1, 7));
        Due.no("length(0, 1, 0)", x.length(0, 1, 0));
        Due.no("length(0, 1, -5)", x.length(0, 1, -5));
        Due.no("length(0, 1, 1000)", x.length(0, 1, 1000));
        Due.no("length(1, 1, 5)", x.length(1, 1, 5));
        Due.no("length(3, 1, 5)", x.length(3, 1, 5));
        Due.no("length(1, 3, 5)", x.length(1, 3, 5));
        Due.no("length(-1, 1, 5)", x.length(-1, 1, 5));
        Due.no("length(1, LEAST, 5)", x.length(1, LEAST, 5));
        Due.no("length(MOST, 1, MOST)", x.length(MOST, 1, MOST));
        x.cart(1, 0);
        Due.is("drive over 7", x.drive(0, 1), 7);
    }

    private static void promise3LengthIsTheSameBothWays() {
        WheelStands x = threeStands();
        x.cart(1, 0);
        Due.is("999 at first", x.drive(0, 1), 999);
        x.length(1, 0, 10);
        Due.is("back over 10", x.drive(0, 0), 1009);
        Due.is("and there again", x.drive(0, 1), 1019);
        x.length(0, 1, 20);
        Due.is("back over 20", x.drive(0, 0), 1039);
        Due.is("to itself 0", x.drive(0, 0), 1039);
        Due.is("to the third 999", x.drive(0, 2), 2038);
    }

    private static void promise4Next() {
        WheelStands x = threeStands();
        Due.is("missing at first", x.tell(0, 6), -1);
        Due.is("next(0, 0)", x.next(0, 0), -1);
        Due.is("next(0, 3)", x.next(0, 3), -1);
        Due.is("next(3, 0)", x.next(3, 0), -1);
        Due.is("next(-1, 0)", x.next(-1, 0), -1);
        Due.is("next(0, -1)", x.next(0, -1), -1);
        Due.is("next(MOST, LEAST)", x.next(MOST, LEAST), -1);
        Due.is("still missing", x.tell(0, 6), -1);
        for (int n = 1; n <= 8; n++) {
            Due.is("next no. " + n, x.next(0, 1 + n % 2), n);
            Due.is("row of 0", x.tell(0, 6), n);
        }
        Due.is("a ninth", x.next(0, 1), -1);
        Due.is("row of 0 has 8", x.tell(0, 6), 8);
        Due.is("row of 1 is missing", x.tell(1, 6), -1);
    }

    private static void promise5TearRow() {
        WheelStands x = threeStands();
        Due.no("tear of what is missing", x.tear(0, 0));
        x.next(0, 1);
        x.next(0, 2);
        Due.no("tear(1, 0)", x.tear(1, 0));
        Due.no("tear(0, 1)", x.tear(0, 1));
        Due.no("tear(0, 2)", x.tear(0, 2));
        Due.no("tear(0, -1)", x.tear(0, -1));
        Due.no("tear(3, 0)", x.tear(3, 0));
        Due.no("tear(-1, 0)", x.tear(-1, 0));
        Due.no("tear(LEAST, MOST)", x.tear(LEAST, MOST));
        Due.is("row stays", x.tell(0, 6), 2);
        Due.yes("tear(0, 0)", x.tear(0, 0));
        Due.is("row is missing", x.tell(0, 6), -1);
        Due.no("tear(0, 0) again", x.tear(0, 0));
        Due.is("the row begins anew", x.next(0, 2), 1);
    }

    private static void promise5TearDemand() {
        WheelStands x = threeStands();
        Due.no("tear(0, 1) when missing", x.tear(0, 1));
        x.demand(0, 3, 0, 5);
        x.next(0, 1);
        Due.no("tear(1, 1)", x.tear(1, 1));
        Due.is("5 turned away", x.runs(0, 0, 0), 5);
        Due.yes("tear(0, 1)", x.tear(0, 1));
        Due.is("nobody comes", x.runs(0, 0, 0), 0);
        Due.is("the row stays", x.tell(0, 6), 1);
        Due.no("tear(0, 1) again", x.tear(0, 1));
        x.demand(0, 0, 2, 0);
        x.demand(0, 23, 0, 1);
        Due.yes("tear of three hours", x.tear(0, 1));
        x.demand(0, 1, 0, 0);
        Due.is("none of them is there", x.runs(0, 1, 2), 1);
        x.demand(0, 4, 0, 1);
        Due.is("the other hours are 0", x.runs(0, 0, 0), 1);
        Due.yes("tear of a new demand", x.tear(0, 1));
        x.demand(0, 4, 0, 0);
        Due.yes("a demand of zeros is there", x.tear(0, 1));
    }

    private static void promise6Block() {
        WheelStands x = threeStands();
        x.put(0, 0, 1);
        Due.yes("block(0, 0)", x.block(0, 0, true));
        Due.no("block(0, 0) again", x.block(0, 0, true));
        Due.docks("blocked", x, 0, -2, 0, -1);
        Due.no("block where a wheel is", x.block(0, 1, true));
        Due.no("unblock where a wheel is", x.block(0, 1, false));
        Due.no("unblock of a free one", x.block(0, 2, false));
        Due.no("block(0, 3)", x.block(0, 3, true));
        Due.no("block(0, -1)", x.block(0, -1, true));
        Due.no("block(3, 0)", x.block(3, 0, true));
        Due.no("block(-1, 0)", x.block(-1, 0, true));
        Due.no("block(0, 3, false)", x.block(0, 3, false));
        Due.no("block(MOST, MOST)", x.block(MOST, MOST, true));
        Due.docks("unchanged", x, 0, -2, 0, -1);
        Due.is("put in a blocked one", x.put(0, 0, 0), -1);
        Due.yes("unblock", x.block(0, 0, false));
        Due.docks("unblocked", x, 0, -1, 0, -1);
        Due.yes("block(0, 2)", x.block(0, 2, true));
        Due.docks("the last", x, 0, -1, 0, -2);
    }

    private static void promise7Dock() {
        WheelStands x = threeStands();
        x.put(2, 0, 1);
        x.put(3, 1, 2);
        x.block(0, 0, true);
        Due.docks("cargo behind a blocked one", x, 0, -2, 0, 0);
        Due.docks("one wheel", x, 1, -1, -1, 1);
        Due.is("dock(0, -1)", x.dock(0, -1), -3);
        Due.is("dock(3, 0)", x.dock(3, 0), -3);
        Due.is("dock(-1, 0)", x.dock(-1, 0), -3);
        Due.is("dock(0, MOST)", x.dock(0, MOST), -3);
        Due.is("dock(LEAST, LEAST)", x.dock(LEAST, LEAST), -3);
    }

    private static void promise8Tell() {
        WheelStands x = new WheelStands();
        x.stand(6);
        x.stand(2);
        Due.tells("empty", x, 0, 6, 6, 0, 0, 0, -1, -1, 0, -3);
        x.put(2, 0, 0);
        x.put(1, 0, 2);
        x.put(3, 0, 3);
        x.block(0, 5, true);
        x.want(0, 4);
        x.next(0, 1);
        Due.tells("filled", x, 0, 6, 1, 3, 2, 0, 4, 1, 0, -3);
        x.fault(1);
        Due.is("broken ones are movable", x.tell(0, 3), 2);
        x.put(0, 1, 0);
        x.put(0, 1, 1);
        x.mend(1);
        x.length(0, 1, 10);
        x.hire(0, 2, 3);
        x.end(1, 1);
        Due.tells("on the street", x, 1, 2, 0, 2, 2, 1, -1, -1, 2, -3);
        Due.tells("two are gone", x, 0, 6, 3, 1, 0, 0, 4, 1, 0, -3);
        for (int what : new int[] {-1, 8, LEAST, MOST}) {
            Due.is("tell(0, " + what + ")", x.tell(0, what), -3);
        }
        Due.is("tell(2, 0)", x.tell(2, 0), -3);
        Due.is("tell(-1, 0)", x.tell(-1, 0), -3);
        Due.is("tell(LEAST, 0)", x.tell(LEAST, 0), -3);
    }
}
