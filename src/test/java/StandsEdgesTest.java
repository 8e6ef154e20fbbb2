/** The edges of promises 1 to 8, one by one; a method's name begins with the number of its promise. */
public final class StandsEdgesTest {
    public static void main(String[] args) {
        promise1NoStands();
        promise1NoWheels();
        promise1NoCarts();
        promise1NoImages();
        promise1NoRound();
        promise1HourZero();
        promise1EveryCallIsRefused();
        promise2TwoDocksAreTheFewest();
        promise2TwelveDocksAreTheMost();
        promise2TwelveStandsAreTheMost();
        promise3OneIsTheShortest();
        promise3NineHundredNinetyNineIsTheLongest();
        promise3BothAreOne();
        promise3OneIsNone();
        promise4BothAreOne();
        promise4OneIsNone();
        promise4EightAreTheMost();
        promise4ARefusedOneMakesNoRow();
        promise5TheRowIsMissing();
        promise5TheDemandIsMissing();
        promise5AnotherWhat();
        promise5NoSuchStand();
        promise6NoSuchDock();
        promise6ItHasAWheel();
        promise6ItIsSo();
        promise7NoSuchDock();
        promise7WheelBlockedFree();
        promise8AnotherWhat();
        promise8NoSuchStand();
        promise8Empty();
        promise8Full();
        promise8NothingTold();
        Due.close("StandsEdgesTest");
    }

    private static Run empty() {
        return new Run("");
    }

    private static void promise1NoStands() {
        empty().due("count(0)", 0).dues("tell(0, #)", -3, -3, -3, -3, -3, -3, -3, -3).due("dock(0, 0)", -3);
    }

    private static void promise1NoWheels() {
        empty().due("count(1)", 0).dues("count(#)", 0, 0, 0, 0, 0, 0, 0, 0, 0)
            .dues("wheel(0, #)", -3, -3, -3, -3, -3, -3, -3, -3).due("doubt(-1, 0)", -1);
    }

    private static void promise1NoCarts() {
        empty().due("count(2)", 0).dues("load(0, #)", -3, -3, -3, -3, -3);
    }

    private static void promise1NoImages() {
        empty().refusedAll(0, "again(0); again(1); again(2); again(3)");
    }

    private static void promise1NoRound() {
        empty().due("round(0)", -1);
    }

    private static void promise1HourZero() {
        empty().due("count(8)", 0).due("hour()", 1);
    }

    private static void promise1EveryCallIsRefused() {
        empty().refusedAll(0, "length(0, 1, 5); tear(0, 0); tear(0, 1); block(0, 0, true); block(0, 0, false);"
                + "fault(0); mend(0); fetch(0, 0); demand(0, 0, 1, 1); want(0, 1)")
            .refusedAll(-1, "next(0, 1); put(0, 0, 0); put(2, 0, 0); charge(0, 0); test(0); hire(0, 0, NONE);"
                + "hire(0, 0, 0); end(0, 0); cart(1, 0); drive(0, 0); pick(0, 0); drop(0); plan(0); carry(0)")
            .refusedAll(-3, "runs(0, 0, 0); tell(0, 0); load(0, 0); wheel(0, 0); dock(0, 0)")
            .refused("shortage(0)", -1000);
    }

    private static void promise2TwoDocksAreTheFewest() {
        Towns.rich().refusedAll(-1, "stand(1); stand(0); stand(-1); stand(-2); stand(LEAST)")
            .due("stand(2)", 4).due("tell(4, 0)", 2).dues("dock(4, #)", -1, -1, -3);
    }

    private static void promise2TwelveDocksAreTheMost() {
        Towns.rich().refusedAll(-1, "stand(13); stand(14); stand(MOST)")
            .due("stand(12)", 4).due("tell(4, 0)", 12)
            .dues("dock(4, #)", -1, -1, -1, -1, -1, -1, -1, -1, -1, -1, -1, -1, -3);
    }

    private static void promise2TwelveStandsAreTheMost() {
        Towns.rich().does("stand(2);".repeat(7)).due("stand(3)", 11)
            .refusedAll(-1, "stand(2); stand(3); stand(12); stand(13)")
            .due("count(0)", 12).due("tell(11, 0)", 3).due("tell(12, 0)", -3);
    }

    private static void promise3OneIsTheShortest() {
        Towns.rich().refusedAll(0, "length(0, 1, 0); length(0, 1, -1); length(1, 0, 0); length(0, 1, LEAST)")
            .due("length(0, 1, 1)", 1).due("drive(0, 1)", 1);
    }

    private static void promise3NineHundredNinetyNineIsTheLongest() {
        Towns.rich().refusedAll(0, "length(0, 1, 1000); length(1, 0, 1000); length(0, 1, MOST)")
            .due("length(0, 1, 999)", 1).due("drive(0, 1)", 999);
    }

    private static void promise3BothAreOne() {
        Towns.rich().refusedAll(0, "length(0, 0, 5); length(3, 3, 5); length(0, 0, 0)").due("drive(0, 0)", 0);
    }

    private static void promise3OneIsNone() {
        Towns.rich().refusedAll(0, "length(0, 4, 5); length(4, 0, 5); length(-1, 0, 5); length(0, -1, 5);"
                + "length(4, 4, 5); length(-1, -1, 5); length(4, 5, 5); length(LEAST, 0, 5); length(0, MOST, 5)")
            .due("length(0, 3, 5)", 1).due("length(3, 1, 6)", 1).due("drive(0, 3)", 5).due("drive(1, 3)", 36);
    }

    private static void promise4BothAreOne() {
        Towns.rich().refusedAll(-1, "next(0, 0); next(1, 1); next(3, 3)").due("tell(1, 6)", 2);
    }

    private static void promise4OneIsNone() {
        Towns.rich().refusedAll(-1, "next(4, 0); next(0, 4); next(-1, 0); next(0, -1); next(1, 4); next(4, 4);"
                + "next(-1, -1); next(LEAST, 0); next(1, MOST)")
            .due("next(1, 0)", 3).due("next(3, 0)", 1).due("next(0, 3)", 1);
    }

    private static void promise4EightAreTheMost() {
        Towns.rich().due("next(1, 2)", 3).due("next(1, 2)", 4).due("next(1, 3)", 5).due("next(1, 0)", 6)
            .due("next(1, 2)", 7).due("next(1, 3)", 8)
            .refusedAll(-1, "next(1, 0); next(1, 2); next(1, 1)").due("tell(1, 6)", 8)
            .due("tear(1, 0)", 1).due("tell(1, 6)", -1).due("next(1, 0)", 1).due("tell(1, 6)", 1);
    }

    private static void promise4ARefusedOneMakesNoRow() {
        Towns.rich().refusedAll(-1, "next(0, 0); next(0, 4)").due("tell(0, 6)", -1)
            .refused("tear(0, 0)", 0).due("next(0, 1)", 1).due("tell(0, 6)", 1);
    }

    private static void promise5TheRowIsMissing() {
        Towns.rich().refusedAll(0, "tear(0, 0); tear(3, 0)")
            .due("tear(1, 0)", 1).refused("tear(1, 0)", 0).due("tell(1, 6)", -1).due("tell(2, 6)", 1)
            .does("next(3, 0);").due("tear(3, 0)", 1).refused("tear(3, 0)", 0);
    }

    private static void promise5TheDemandIsMissing() {
        Towns.rich().refusedAll(0, "tear(2, 1); tear(3, 1)")
            .due("tear(0, 1)", 1).refused("tear(0, 1)", 0).dues("runs(0, 0, #)", 0, -1, 0)
            .due("tear(1, 1)", 1).does("demand(3, 0, 0, 0);").due("tear(3, 1)", 1).refused("tear(3, 1)", 0);
    }

    private static void promise5AnotherWhat() {
        Towns.rich().refusedAll(0, "tear(1, -1); tear(1, 2); tear(1, LEAST); tear(1, MOST)")
            .due("tear(1, 0)", 1).due("tear(1, 1)", 1);
    }

    private static void promise5NoSuchStand() {
        Towns.rich().refusedAll(0, "tear(-1, 0); tear(4, 0); tear(-1, 1); tear(4, 1); tear(LEAST, 0); tear(MOST, 1)");
    }

    private static void promise6NoSuchDock() {
        Towns.rich().refusedAll(0, "block(0, -1, true); block(0, 6, true); block(0, -1, false); block(0, 6, false);"
                + "block(-1, 0, true); block(4, 0, true); block(-1, 0, false); block(4, 0, false);"
                + "block(3, 2, true); block(0, LEAST, true); block(0, MOST, true); block(MOST, LEAST, false)")
            .due("block(2, 0, true)", 1).due("block(2, 3, true)", 1).dues("dock(2, #)", -2, 7, -2, -2, -3);
    }

    private static void promise6ItHasAWheel() {
        Towns.rich().refusedAll(0, "block(0, 0, true); block(0, 0, false); block(0, 3, true); block(0, 3, false);"
                + "block(0, 4, true); block(0, 4, false); block(3, 1, true)")
            .due("pick(1, 0)", 4).due("block(1, 0, true)", 1);
    }

    private static void promise6ItIsSo() {
        Towns.rich().refusedAll(0, "block(0, 5, true); block(2, 2, true); block(0, 1, false); block(2, 3, false)")
            .due("block(0, 5, false)", 1).refused("block(0, 5, false)", 0).due("dock(0, 5)", -1)
            .due("block(0, 5, true)", 1).refused("block(0, 5, true)", 0).due("dock(0, 5)", -2);
    }

    private static void promise7NoSuchDock() {
        Towns.rich().refusedAll(-3, "dock(0, -1); dock(0, 6); dock(3, 2); dock(-1, 0); dock(4, 0); dock(LEAST, 0);"
                + "dock(0, LEAST); dock(MOST, MOST)");
        Run.ofStands(12, 12).due("dock(11, 11)", -1).refusedAll(-3, "dock(11, 12); dock(12, 11)");
    }

    private static void promise7WheelBlockedFree() {
        Towns.rich().dues("dock(0, #)", 10, -1, -1, 3, 3, -2, -3).dues("dock(3, #)", 8, 9, -3);
    }

    private static void promise8AnotherWhat() {
        Towns.rich().refusedAll(-3, "tell(0, -1); tell(0, 8); tell(0, 9); tell(0, LEAST); tell(0, MOST)")
            .due("tell(0, 0)", 6).due("tell(3, 7)", 1);
    }

    private static void promise8NoSuchStand() {
        Towns.rich().refusedAll(-3, "tell(-1, 0); tell(4, 0); tell(-1, 7); tell(4, 7); tell(LEAST, 4); tell(MOST, 5)")
            .due("tell(3, 0)", 2);
    }

    private static void promise8Empty() {
        Run.ofStands(1, 2).dues("tell(0, #)", 2, 2, 0, 0, 0, -1, -1, 0, -3);
    }

    private static void promise8Full() {
        new Run("stand(12); stand(2); put(2, 0, 10); put(0, 0, 0); put(1, 0, 1); put(3, 0, 2);"
                + "put(2, 0, 3); put(2, 0, 5); put(2, 0, 7); block(0, 9, true); want(0, 12);"
                + "next(0, 1);".repeat(8))
            .dues("tell(0, #)", 12, 0, 7, 3, 0, 12, 8, 0)
            .does("block(0, 9, false);").due("tell(0, 1)", 1);
    }

    private static void promise8NothingTold() {
        Towns.rich().due("tell(0, 5)", -1).due("tell(1, 5)", 3).does("want(1, 0);").due("tell(1, 5)", 0)
            .does("want(1, NONE);").due("tell(1, 5)", -1)
            .due("tell(0, 6)", -1).due("tell(1, 6)", 2).due("tell(2, 6)", 1).does("tear(2, 0);").due("tell(2, 6)", -1);
    }
}
