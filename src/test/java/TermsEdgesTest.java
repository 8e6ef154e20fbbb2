/**
 * The edges that the terms tell, and the two sentences behind them; a method's name begins with the number of its
 * term. What a promise tells too stands in the tests of that promise.
 */
public final class TermsEdgesTest {
    public static void main(String[] args) {
        term1LengthsAtFirst();
        term1LengthOfOneAndItself();
        term1LengthsTheSameBothWays();
        term1RoomIsTheLeastFreeDock();
        term1RoomOfCargoIsTheLeastPair();
        term1ChargeStaysInItsBounds();
        term1WheelWithoutCharge();
        term2DoubtsAtThatStandAlone();
        term2DoubtsInDocksAlone();
        term2DoubtOfTheHired();
        term2RoomIsLeftByTheOneThatIsHired();
        term2FailedOnceMoreEachTime();
        term2RowOfTheOneAtWhichItWasToEnd();
        term2RowIsReadWhenItEnds();
        term3CargoCountsTwo();
        term3InTheOrderInWhichTheyCame();
        term4NobodyComesOrGoes();
        term4EachHour();
        term5MovableAreNoCargo();
        term5MovableAreInDocks();
        term5BrokenOnesAreMovable();
        term5OutOfBalanceByOne();
        termsTheFirstRefusalCounts();
        termsARefusedCallChangesNothing();
        termsTheLastOf512Calls();
        termsDearCallsUpTo512();
        Due.close("TermsEdgesTest");
    }

    private static void term1LengthsAtFirst() {
        Run x = Run.ofStands(12, 2).does("cart(1, 0);");
        int gone = 0;
        for (int s = 1; s < 12; s++) {
            gone += 999;
            x.due("drive(0, " + s + ")", gone);
        }
        x.due("drive(0, 0)", gone + 999);
    }

    private static void term1LengthOfOneAndItself() {
        Run x = Run.ofStands(12, 2).does("cart(1, 0); length(0, 11, 5);");
        x.due("drive(0, 0)", 0).due("drive(0, 11)", 5).due("drive(0, 11)", 5);
        new Run("stand(2); stand(2); put(1, 1, 0); length(0, 1, 1);" + Towns.charge(0, 2)).does("hire(1, 0, NONE);")
            .due("end(0, 1)", 1).due("wheel(0, 1)", 2);
    }

    private static void term1LengthsTheSameBothWays() {
        Run.ofStands(12, 2).does("cart(1, 0); length(0, 11, 1); length(10, 9, 999); length(11, 10, 7);")
            .due("drive(0, 11)", 1).due("drive(0, 0)", 2).due("drive(0, 11)", 3).due("drive(0, 10)", 10)
            .due("drive(0, 11)", 17).does("length(0, 11, 2);").due("drive(0, 0)", 19).due("drive(0, 11)", 21)
            .does("length(11, 0, 3);").due("drive(0, 0)", 24).due("drive(0, 11)", 27);
    }

    private static void term1RoomIsTheLeastFreeDock() {
        Run.ofStands(2, 4).does("put(0, 0, 0); put(0, 0, 1); put(0, 1, 0); block(1, 1, true); hire(0, 0, NONE);"
                + "hire(0, 1, NONE);")
            .due("end(0, 1)", 1).due("wheel(0, 4)", 2).due("end(1, 1)", 1).due("wheel(1, 4)", 3)
            .does("hire(1, 3, NONE); hire(1, 2, NONE); hire(1, 0, NONE);").due("end(1, 1)", 1).due("wheel(1, 4)", 0)
            .due("end(0, 1)", 1).due("wheel(0, 4)", 2);
    }

    private static void term1RoomOfCargoIsTheLeastPair() {
        Run x = Run.ofStands(2, 8).does("length(0, 1, 1); put(2, 0, 0); hire(0, 1, NONE); put(0, 1, 1);"
            + "block(1, 3, true); put(2, 1, 5);");
        x.due("end(0, 1)", 101).dues("dock(1, #)", -1, 1, -1, -2, -1, 2, 2, -1, -3);
        x = Run.ofStands(2, 8).does("length(0, 1, 1); put(2, 0, 0); hire(0, 1, NONE); put(0, 1, 1);"
            + "block(1, 3, true); put(0, 1, 5);");
        x.due("end(0, 1)", 1).dues("dock(1, #)", -1, 1, -1, -2, -1, 2, 0, 0, -3)
            .does("hire(1, 6, NONE); hire(1, 1, NONE);").due("end(0, 1)", 1).due("wheel(0, 4)", 0)
            .does("hire(1, 0, NONE); block(1, 0, true);").due("end(0, 1)", 1).due("wheel(0, 4)", 1);
    }

    private static void term1ChargeStaysInItsBounds() {
        Run x = new Run("stand(4); stand(4); length(0, 1, 300); put(1, 0, 0); put(2, 0, 1); hire(0, 0, NONE);"
            + "hire(0, 1, NONE);");
        x.due("end(0, 1)", 1).due("end(1, 1)", 1).due("wheel(0, 1)", 400).due("wheel(1, 1)", 100)
            .does("hour();".repeat(5)).due("wheel(0, 1)", 900).due("wheel(1, 1)", 350)
            .does("hour();".repeat(2)).due("wheel(0, 1)", 1000).due("wheel(1, 1)", 450)
            .does("hour();".repeat(10)).due("wheel(1, 1)", 950).does("hour(); hour();").due("wheel(1, 1)", 1000)
            .due("wheel(0, 1)", 1000);
    }

    private static void term1WheelWithoutCharge() {
        new Run("stand(4); stand(4); put(0, 0, 0); put(3, 0, 1); hour(); hire(0, 0, 1);").due("wheel(0, 1)", 0)
            .due("end(0, 1)", 1).due("wheel(0, 1)", 0).due("wheel(1, 1)", 0).does("hour();").due("wheel(0, 1)", 0)
            .due("wheel(1, 1)", 0);
    }

    private static void term2DoubtsAtThatStandAlone() {
        Run.ofStands(2, 3).does("put(0, 0, 0); put(0, 0, 1); put(0, 0, 2); put(0, 1, 0); put(0, 1, 2);"
                + "hire(0, 0, NONE);").dues("wheel(#, 5)", 0, 1, 1, 0, 0).does("hire(1, 2, NONE);")
            .dues("wheel(#, 5)", 0, 1, 1, 1, 0).due("end(0, 0)", 0).does("hire(0, 2, NONE);")
            .dues("wheel(#, 5)", 1, 2, 0, 1, 0);
    }

    private static void term2DoubtsInDocksAlone() {
        // On a cart at that stand, hired from it, on its street: none of them has one more.
        Run x = new Run("stand(4); stand(2); put(0, 0, 0); put(0, 0, 1); put(0, 0, 2); put(0, 0, 3); cart(1, 0);"
            + "pick(0, 0); hire(0, 1, NONE); block(0, 0, true); block(0, 1, true);").due("end(1, 0)", 100);
        x.does("hire(0, 2, NONE);").dues("wheel(#, 5)", 0, 0, 0, 2).does("hire(0, 3, NONE);")
            .dues("wheel(#, 5)", 0, 0, 0, 0);
    }

    private static void term2DoubtOfTheHired() {
        Run.ofStands(1, 6).does("put(0, 0, 0); put(3, 0, 1); put(0, 0, 2); put(2, 0, 3); hire(0, 0, NONE);"
                + "end(0, 0); hire(0, 0, NONE);").dues("wheel(#, 5)", 0, 2, 2, 2)
            .does("hire(0, 2, 1);").dues("wheel(#, 5)", 0, 0, 0, 3).due("end(2, 0)", 0).dues("wheel(#, 5)", 0, 0, 0, 3);
    }

    private static void term2RoomIsLeftByTheOneThatIsHired() {
        Run.ofStands(2, 2).does("put(0, 0, 0); put(3, 0, 1); put(0, 1, 0); put(0, 1, 1); next(1, 0); hire(0, 0, 1);")
            .due("end(0, 1)", 0).dues("dock(0, #)", 0, 1, -3).due("tell(1, 4)", 1).due("tell(0, 4)", 0);
    }

    private static void term2FailedOnceMoreEachTime() {
        Run x = Run.ofStands(3, 2).does("put(0, 0, 0); put(0, 1, 0); put(0, 1, 1); put(0, 2, 0); block(2, 1, true);"
            + "next(1, 2); next(1, 2); next(2, 1);");
        x.does("hire(0, 0, NONE);").due("end(0, 1)", 102).dues("tell(#, 4)", 0, 1, 2)
            .does("hire(1, 0, NONE); put(0, 1, 0);").due("end(1, 2)", 101).dues("tell(#, 4)", 0, 2, 3)
            .does("hire(1, 1, NONE); put(0, 1, 1);").due("end(2, 0)", 0).dues("tell(#, 4)", 0, 2, 3);
    }

    private static void term2RowOfTheOneAtWhichItWasToEnd() {
        Run.ofStands(4, 2).does("put(0, 0, 0); block(1, 0, true); block(1, 1, true); block(2, 0, true);"
                + "block(2, 1, true); next(1, 2); next(2, 3); next(0, 3); hire(0, 0, NONE);")
            .due("end(0, 1)", 102).dues("tell(#, 4)", 0, 1, 1, 0).dues("tell(#, 7)", 0, 0, 1, 0);
    }

    private static void term2RowIsReadWhenItEnds() {
        Run x = Run.ofStands(4, 2).does("put(0, 0, 0); block(1, 0, true); block(1, 1, true); next(1, 2);"
            + "hire(0, 0, NONE); tear(1, 0); next(1, 3);");
        x.due("end(0, 1)", 3);
    }

    private static void term3CargoCountsTwo() {
        Run.ofStands(1, 8).does("put(2, 0, 0); put(2, 0, 2); put(2, 0, 4); put(2, 0, 6); cart(8, 0); cart(7, 0);"
                + "pick(1, 0); pick(1, 2); pick(1, 4);").due("load(1, 2)", 6).refused("pick(1, 6)", -1)
            .due("drop(1)", 0).due("drop(1)", 2).due("drop(1)", 4).due("load(1, 2)", 0)
            .does("pick(0, 0); pick(0, 2); pick(0, 4);").due("pick(0, 6)", 3).due("load(0, 2)", 8)
            .dues("load(0, #)", 8, 0, 8, 0, 0, 1, 2, 3, -1, -1, -1, -1, -1);
    }

    private static void term3InTheOrderInWhichTheyCame() {
        Run.ofStands(1, 4).does("put(0, 0, 0); put(0, 0, 1); put(0, 0, 2); cart(3, 0); pick(0, 2); pick(0, 0);"
                + "pick(0, 1);").dues("load(0, #)", 3, 0, 3, 0, 2, 0, 1, -1).due("drop(0)", 0).due("pick(0, 0)", 2)
            .dues("load(0, #)", 3, 0, 3, 0, 0, 1, 2, -1);
    }

    private static void term4NobodyComesOrGoes() {
        Run.ofStands(1, 3).dues("runs(0, 0, #)", 0, -1, 0).dues("runs(0, 3, #)", 0, -1, 3)
            .does("demand(0, 0, 1, 0); demand(0, 23, 0, 2);").dues("runs(0, 0, #)", 1, 23, 0)
            .does("tear(0, 1);").dues("runs(0, 0, #)", 0, -1, 0).dues("runs(0, 3, #)", 0, -1, 3);
    }

    private static void term4EachHour() {
        Run x = Run.ofStands(1, 12);
        for (int hour = 0; hour < 24; hour++) {
            x.does("demand(0, " + hour + ", " + (hour % 2 == 0 ? "2, 1" : "1, 2") + ");");
        }
        x.dues("runs(0, 0, #)", 0, -1, 0).dues("runs(0, 10, #)", 0, -1, 10).dues("runs(0, 11, #)", 1, 1, 10)
            .dues("runs(0, 12, #)", 2, 0, 10)
            .does("demand(0, 23, 0, 3);").dues("runs(0, 0, #)", 2, 23, 0).dues("runs(0, 2, #)", 0, -1, 0);
    }

    private static void term5MovableAreNoCargo() {
        Run.ofStands(1, 12).does("put(0, 0, 0); put(1, 0, 1); put(3, 0, 2);").due("tell(0, 3)", 3)
            .does("put(2, 0, 3);").due("tell(0, 3)", 3).due("tell(0, 2)", 4);
    }

    private static void term5MovableAreInDocks() {
        Run x = Run.ofStands(2, 4).does("put(0, 0, 0); put(0, 0, 1); put(0, 0, 2); cart(1, 0); want(0, 3);");
        x.due("plan(0)", 0).does("pick(0, 2);").due("tell(0, 3)", 2).does("drop(0);").due("plan(0)", 0)
            .does("hire(0, 2, NONE);").due("tell(0, 3)", 2).refused("plan(0)", -1)
            .does("block(0, 2, true); block(0, 3, true);").due("end(2, 0)", 100).due("tell(0, 3)", 2)
            .refused("plan(0)", -1).does("block(0, 3, false); fetch(0, 2); drop(0);").due("plan(0)", 0);
    }

    private static void term5BrokenOnesAreMovable() {
        Run.ofStands(2, 2).does("put(0, 0, 0); put(0, 0, 1); fault(0); fault(1); test(1); want(0, 0); want(1, 2);"
                + "cart(2, 0);").due("tell(0, 3)", 2).due("carry(0)", 999).dues("dock(1, #)", 0, 1, -3);
    }

    private static void term5OutOfBalanceByOne() {
        String town = "stand(4); stand(4); put(0, 0, 0); put(0, 0, 1); cart(8, 0);";
        new Run(town).does("want(0, 2); want(1, 0);").due("plan(0)", 0)
            .does("want(0, 1);").refused("plan(0)", -1).does("want(1, 1);").due("plan(0)", 999)
            .does("want(0, 3); want(1, 0);").refused("plan(0)", -1)
            .does("want(0, NONE); want(1, 0);").due("plan(0)", 0).does("want(1, NONE);").due("plan(0)", 0);
    }

    /** hire() alone answers its refusals with other numbers; each pair of them, the first told counts. */
    private static void termsTheFirstRefusalCounts() {
        String town = "stand(4); stand(4); put(3, 0, 0); put(1, 0, 1); put(3, 0, 2); fault(0);";
        new Run(town).refused("hire(0, 4, 9)", -1).refused("hire(0, 3, 9)", -1).refused("hire(0, 0, 9)", -2)
            .refused("hire(0, 0, NONE)", -2).refused("hire(0, 1, 9)", -4).refused("hire(0, 1, 0)", -4)
            .does("fault(1);").refused("hire(0, 1, 9)", -3).refused("hire(0, 1, NONE)", -3)
            .does("length(0, 1, 1);").refused("hire(0, 1, 0)", -3).does("mend(1);").refused("hire(0, 1, 0)", -5)
            .due("hire(0, 1, 2)", 1);
    }

    private static void termsARefusedCallChangesNothing() {
        Run x = Towns.rich();
        for (String call : new String[] {"stand(1)", "next(0, 0)", "put(0, 3, 0)", "charge(0, 0)", "test(0)",
            "end(1, 0)", "cart(0, 0)", "drive(0, 4)", "pick(0, 1)", "drop(1)", "plan(0)", "carry(0)"}) {
            x.refused(call, -1);
        }
        for (String call : new String[] {"length(0, 0, 1)", "tear(3, 0)", "block(0, 0, true)", "fault(4)", "mend(0)",
            "fetch(0, 6)", "demand(0, 24, 1, 1)", "want(0, 13)", "image(4)", "again(0)"}) {
            x.refused(call, 0);
        }
    }

    private static void termsTheLastOf512Calls() {
        Run x = Run.ofStands(2, 2).does("put(1, 0, 0);");
        for (int call = 3; call < 510; call++) {
            x.does("hour();");
        }
        x.due("count(8)", (510 - 3) % 24).due("hire(0, 0, NONE)", -4);
        Due.is("calls asked", x.calls(), Asked.MOST_CALLS);
        x = Run.ofStands(2, 2).does("put(0, 0, 0); image(3);");
        for (int call = 4; call < 510; call += 2) {
            x.does("hire(0, 0, NONE); end(0, 0);");
        }
        x.does("hire(0, 0, NONE);").due("again(3)", 1);
        Due.is("calls asked", x.calls(), Asked.MOST_CALLS);
    }

    private static void termsDearCallsUpTo512() {
        Run x = Towns.star(6).does("image(0); image(1); image(2); image(3);");
        while (x.calls() < Asked.MOST_CALLS) {
            int k = x.calls() % 4;
            x.due(k % 2 == 0 ? "carry(0)" : "again(" + k + ")", k % 2 == 0 ? 60 : 1);
        }
        x = Towns.star(1);
        for (int trip = 1; x.calls() + 4 <= Asked.MOST_CALLS; trip++) {
            x.due("carry(0)", 10).due("load(0, 3)", 10 * trip)
                .does("want(0, " + trip % 2 + "); want(1, " + (trip + 1) % 2 + ");");
        }
    }
}
