/** Promises 25 to 27: demands. */
public final class DemandsTest {
    private static final int LEAST = Integer.MIN_VALUE;
    private static final int MOST = Integer.MAX_VALUE;

    public static void main(String[] args) {
        promise25Demand();
        promise25DemandRefused();
        promise26Runs();
        promise26ByTurns();
        promise26Refused();
        promise26BlockedDocks();
        promise27Shortage();
        promise27TheLeastOfSeveral();
        promise27CountsWheelsNow();
        Due.close("DemandsTest");
    }

    private static WheelStands stand(int docks) {
        WheelStands x = new WheelStands();
        x.stand(docks);
        return x;
    }

    private static void runs(String call, WheelStands x, int w, int away, int first, int last) {
        Due.is(call + ": runs(0, " + w + ", 0)", x.runs(0, w, 0), away);
        Due.is(call + ": runs(0, " + w + ", 1)", x.runs(0, w, 1), first);
        Due.is(call + ": runs(0, " + w + ", 2)", x.runs(0, w, 2), last);
    }

    private static void promise25Demand() {
        WheelStands x = stand(4);
        runs("missing", x, 3, 0, -1, 3);
        Due.yes("demand(0, 0, 0, 2)", x.demand(0, 0, 0, 2));
        runs("hour 0", x, 3, 0, -1, 1);
        Due.yes("demand(0, 23, 4, 0)", x.demand(0, 23, 4, 0));
        runs("and hour 23", x, 3, 1, 23, 4);
        Due.yes("hour 0 anew", x.demand(0, 0, 0, 3));
        runs("other than before", x, 3, 0, -1, 4);
        Due.yes("demand(0, 5, 99, 99)", x.demand(0, 5, 99, 99));
        Due.yes("demand(0, 5, 0, 0)", x.demand(0, 5, 0, 0));
        runs("taken back", x, 3, 0, -1, 4);
        x.stand(4);
        Due.is("another stand has none", x.runs(1, 3, 2), 3);
    }

    private static void promise25DemandRefused() {
        WheelStands x = stand(4);
        Due.no("demand(1, 0, 1, 1)", x.demand(1, 0, 1, 1));
        Due.no("demand(-1, 0, 1, 1)", x.demand(-1, 0, 1, 1));
        Due.no("demand(0, -1, 1, 1)", x.demand(0, -1, 1, 1));
        Due.no("demand(0, 24, 1, 1)", x.demand(0, 24, 1, 1));
        Due.no("demand(0, 0, -1, 1)", x.demand(0, 0, -1, 1));
        Due.no("demand(0, 0, 100, 1)", x.demand(0, 0, 100, 1));
        Due.no("demand(0, 0, 1, -1)", x.demand(0, 0, 1, -1));
        Due.no("demand(0, 0, 1, 100)", x.demand(0, 0, 1, 100));
        Due.no("demand(LEAST, MOST, LEAST, MOST)", x.demand(LEAST, MOST, LEAST, MOST));
        Due.no("it is missing still", x.tear(0, 1));
        x.demand(0, 0, 2, 1);
        Due.no("demand(0, 0, 3, 100)", x.demand(0, 0, 3, 100));
        runs("as it was", x, 0, 0, -1, 1);
    }

    private static void promise26Runs() {
        WheelStands x = stand(3);
        x.demand(0, 2, 5, 0);
        x.demand(0, 7, 0, 9);
        x.demand(0, 11, 1, 0);
        runs("from 0", x, 0, 2 + 6, 2, 1);
        runs("from 3", x, 3, 5 + 6, 2, 1);
        x.demand(0, 2, 1, 0);
        runs("hour 7 is the first", x, 0, 8, 7, 1);
    }

    private static void promise26ByTurns() {
        WheelStands x = stand(2);
        x.demand(0, 0, 3, 3);
        runs("from 0: all find what they seek", x, 0, 0, -1, 0);
        runs("from 1", x, 1, 0, -1, 1);
        runs("from 2: the first that brings is turned away", x, 2, 1, 0, 1);
        x.demand(0, 0, 2, 6);
        runs("two turns, then four that want", x, 1, 3, 0, 0);
        x.demand(0, 0, 6, 2);
        runs("two turns, then four that bring", x, 2, 1 + 3, 0, 2);
        x.demand(0, 0, 1, 3);
        x.demand(0, 1, 3, 1);
        runs("hour by hour", x, 2, 1 + 1, 0, 2);
    }

    private static void promise26Refused() {
        WheelStands x = stand(3);
        x.demand(0, 0, 9, 9);
        Due.is("runs(1, 0, 0)", x.runs(1, 0, 0), -3);
        Due.is("runs(-1, 0, 0)", x.runs(-1, 0, 0), -3);
        Due.is("runs(0, -1, 0)", x.runs(0, -1, 0), -3);
        Due.is("runs(0, 4, 0)", x.runs(0, 4, 0), -3);
        Due.is("runs(0, 3, 2)", x.runs(0, 3, 2), 2);
        Due.is("runs(0, 0, 3)", x.runs(0, 0, 3), -3);
        Due.is("runs(0, 0, -1)", x.runs(0, 0, -1), -3);
        Due.is("runs(LEAST, MOST, LEAST)", x.runs(LEAST, MOST, LEAST), -3);
        Due.is("runs(0, MOST, 0)", x.runs(0, MOST, 0), -3);
    }

    private static void promise26BlockedDocks() {
        WheelStands x = stand(3);
        x.put(0, 0, 0);
        x.block(0, 1, true);
        x.demand(0, 4, 3, 1);
        Due.is("three wheels are too many", x.runs(0, 3, 0), -3);
        runs("c is 2", x, 2, 2, 4, 2);
        x.block(0, 2, true);
        runs("c is 1", x, 0, 1, 4, 1);
        WheelStands none = stand(2);
        none.block(0, 0, true);
        none.block(0, 1, true);
        none.demand(0, 9, 2, 3);
        runs("c is 0: all are turned away", none, 0, 5, 9, 0);
        Due.is("w is above c", none.runs(0, 1, 0), -3);
        Due.is("shortage with c of 0", none.shortage(0), 0);
    }

    private static void promise27Shortage() {
        WheelStands x = stand(6);
        Due.is("missing: 0 wheels do", x.shortage(0), 0);
        x.demand(0, 6, 0, 4);
        Due.is("4 do", x.shortage(0), 4);
        x.demand(0, 3, 4, 0);
        Due.is("those that bring them come first", x.shortage(0), 0);
        x.demand(0, 2, 0, 6);
        Due.is("all that there is room for", x.shortage(0), 6);
        x.demand(0, 2, 0, 99);
        Due.is("however many want", x.shortage(0), 6);
        Due.is("shortage(1)", x.shortage(1), -1000);
        Due.is("shortage(-1)", x.shortage(-1), -1000);
        Due.is("shortage(MOST)", x.shortage(MOST), -1000);
        x.block(0, 5, true);
        Due.is("no room in a blocked one", x.shortage(0), 5);
    }

    private static void promise27TheLeastOfSeveral() {
        WheelStands x = stand(8);
        x.demand(0, 1, 3, 0);
        x.demand(0, 2, 0, 5);
        Due.is("2 .. 5 do", x.shortage(0), 2);
        x.demand(0, 1, 7, 0);
        x.demand(0, 2, 0, 9);
        Due.is("1 with one turned away, 2 with one", x.shortage(0), 1);
    }

    private static void promise27CountsWheelsNow() {
        WheelStands x = stand(6);
        x.put(2, 0, 0);
        x.put(0, 0, 2);
        x.put(3, 0, 3);
        Due.is("three too many, a cargo counts one", x.shortage(0), -3);
        x.demand(0, 0, 0, 5);
        Due.is("two too few", x.shortage(0), 2);
        x.hire(0, 2, 3);
        Due.is("hired ones do not count", x.shortage(0), 4);
    }
}
