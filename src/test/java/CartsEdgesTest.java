/** The edges of promises 19 to 24, one by one; a method's name begins with the number of its promise. */
public final class CartsEdgesTest {
    public static void main(String[] args) {
        promise19LoadOfOneIsTheLeast();
        promise19LoadOfEightIsTheMost();
        promise19NoSuchStand();
        promise19ThreeAreTheMost();
        promise20NoSuchCart();
        promise20NoSuchStand();
        promise20WhereItIs();
        promise20AllItHasGone();
        promise21NoSuchCart();
        promise21NoSuchDock();
        promise21NoWheelThere();
        promise21LoadJustEnough();
        promise21LoadForCargo();
        promise21EightOnIt();
        promise21FreesTheDocks();
        promise22NoSuchCart();
        promise22NoSuchWheel();
        promise22NotOnTheStreet();
        promise22OnAnotherStreet();
        promise22LoadJustEnough();
        promise22LoadForCargo();
        promise23NoSuchCart();
        promise23NothingOnIt();
        promise23NoRoom();
        promise23NoRoomForCargo();
        promise23LastRoom();
        promise23TheRowMovesUp();
        promise23TheRowFillsAgain();
        promise23DoubtIsZero();
        promise24NoSuchCart();
        promise24WhatBelowZero();
        promise24BehindTheLastWheel();
        promise24Empty();
        promise24Full();
        Due.close("CartsEdgesTest");
    }

    private static void promise19LoadOfOneIsTheLeast() {
        Towns.rich().refusedAll(-1, "cart(0, 0); cart(-1, 0); cart(LEAST, 0)").due("cart(1, 0)", 2)
            .dues("load(2, #)", 1, 0, 0, 0, -1);
    }

    private static void promise19LoadOfEightIsTheMost() {
        Towns.rich().refusedAll(-1, "cart(9, 0); cart(10, 0); cart(MOST, 0)").due("cart(8, 3)", 2)
            .dues("load(2, #)", 8, 3, 0, 0, -1);
    }

    private static void promise19NoSuchStand() {
        Towns.rich().refusedAll(-1, "cart(1, -1); cart(1, 4); cart(8, 12); cart(3, LEAST); cart(3, MOST)")
            .due("cart(3, 3)", 2).due("load(2, 1)", 3);
    }

    private static void promise19ThreeAreTheMost() {
        Towns.rich().due("cart(4, 0)", 2).refusedAll(-1, "cart(4, 0); cart(1, 3)").due("count(2)", 3)
            .due("load(3, 0)", -3);
    }

    private static void promise20NoSuchCart() {
        Towns.rich().refusedAll(-1, "drive(-1, 0); drive(2, 0); drive(3, 0); drive(LEAST, 0); drive(MOST, 0)")
            .does("cart(1, 1);").due("drive(2, 0)", 50);
    }

    private static void promise20NoSuchStand() {
        Towns.rich().refusedAll(-1, "drive(0, -1); drive(0, 4); drive(1, 12); drive(0, LEAST); drive(0, MOST)")
            .due("drive(0, 3)", 999).due("load(0, 1)", 3);
    }

    private static void promise20WhereItIs() {
        Towns.rich().due("drive(0, 0)", 0).due("drive(1, 1)", 30).dues("load(1, #)", 8, 1, 0, 30, -1);
    }

    private static void promise20AllItHasGone() {
        Towns.rich().due("drive(0, 1)", 50).due("drive(0, 2)", 80).due("drive(0, 0)", 150).due("load(0, 3)", 150)
            .due("wheel(2, 1)", 1000).due("load(1, 3)", 30);
    }

    private static void promise21NoSuchCart() {
        Towns.rich().refusedAll(-1, "pick(-1, 0); pick(2, 0); pick(LEAST, 0); pick(MOST, 0)")
            .does("cart(1, 1);").due("pick(2, 0)", 4);
    }

    private static void promise21NoSuchDock() {
        Towns.rich().refusedAll(-1, "pick(0, -1); pick(0, 6); pick(1, 3); pick(0, LEAST); pick(0, MOST)")
            .does("drive(1, 3);").refused("pick(1, 2)", -1).due("pick(1, 1)", 9).due("pick(1, 0)", 8);
    }

    private static void promise21NoWheelThere() {
        Towns.rich().refusedAll(-1, "pick(0, 1); pick(0, 5); pick(1, 2)").due("pick(0, 0)", 10)
            .refused("pick(0, 0)", -1);
    }

    private static void promise21LoadJustEnough() {
        Towns.rich().due("pick(0, 0)", 10).does("put(0, 0, 0); put(0, 0, 1);").due("load(0, 2)", 2)
            .due("pick(0, 0)", 11).due("load(0, 2)", 3).refused("pick(0, 1)", -1).due("dock(0, 1)", 12)
            .does("drop(0);").due("pick(0, 1)", 12);
    }

    private static void promise21LoadForCargo() {
        Towns.rich().due("load(0, 2)", 1).due("pick(0, 4)", 3).due("load(0, 2)", 3)
            .dues("load(0, #)", 3, 0, 3, 0, 2, 3, -1);
        Towns.rich().does("pick(0, 0);").due("load(0, 2)", 2).refusedAll(-1, "pick(0, 3); pick(0, 4)");
        new Run("stand(4); put(2, 0, 0); put(2, 0, 2); cart(1, 0); cart(2, 0);")
            .refusedAll(-1, "pick(0, 0); pick(0, 1)")
            .due("pick(1, 1)", 0).refusedAll(-1, "pick(1, 2); pick(1, 3)").due("load(0, 2)", 0);
    }

    private static void promise21EightOnIt() {
        Run x = Run.ofStands(1, 12).does("cart(8, 0);");
        for (int d = 0; d < 9; d++) {
            x.does("put(0, 0, " + d + ");");
        }
        for (int d = 0; d < 8; d++) {
            x.due("pick(0, " + d + ")", d);
        }
        x.refused("pick(0, 8)", -1).dues("load(0, #)", 8, 0, 8, 0, 0, 1, 2, 3, 4, 5, 6, 7, -1);
    }

    private static void promise21FreesTheDocks() {
        Towns.rich().due("pick(0, 3)", 3).dues("dock(0, #)", 10, -1, -1, -1, -1, -2).due("tell(0, 1)", 4)
            .due("put(2, 0, 3)", 11);
    }

    private static void promise22NoSuchCart() {
        Towns.rich().does("drive(0, 3);").refusedAll(0, "fetch(-1, 6); fetch(2, 6); fetch(LEAST, 6); fetch(MOST, 6)")
            .does("cart(1, 3);").due("fetch(2, 6)", 1);
    }

    private static void promise22NoSuchWheel() {
        Towns.rich().does("drive(0, 3);").refusedAll(0, "fetch(0, -1); fetch(0, 11); fetch(0, LEAST); fetch(0, MOST)");
    }

    private static void promise22NotOnTheStreet() {
        Towns.rich().refusedAll(0, "fetch(0, 0); fetch(0, 1); fetch(0, 2); fetch(0, 3); fetch(0, 10); fetch(1, 4)")
            .does("drive(0, 3);").refusedAll(0, "fetch(0, 8); fetch(0, 9); fetch(0, 2)")
            .due("fetch(0, 6)", 1).refused("fetch(0, 6)", 0);
    }

    private static void promise22OnAnotherStreet() {
        Towns.rich().refusedAll(0, "fetch(0, 6); fetch(1, 6)").does("drive(1, 3);").due("fetch(1, 6)", 1)
            .due("tell(3, 7)", 0).due("tell(3, 4)", 1);
    }

    private static void promise22LoadJustEnough() {
        Towns.rich().does("pick(0, 0); drive(0, 3);").due("load(0, 2)", 2).due("fetch(0, 6)", 1)
            .dues("load(0, #)", 3, 3, 3, 999, 2, 10, 6, -1);
        Towns.rich().does("pick(0, 0); put(0, 0, 0); pick(0, 0); drive(0, 3);").due("load(0, 2)", 3)
            .refused("fetch(0, 6)", 0).does("cart(1, 3);").due("fetch(2, 6)", 1);
    }

    private static void promise22LoadForCargo() {
        Run x = new Run("stand(3); stand(2); length(0, 1, 10); put(2, 0, 0); put(0, 1, 0); put(0, 1, 1);"
            + "hire(0, 0, NONE); cart(2, 1); cart(3, 1);").due("end(0, 1)", 101).does("pick(0, 0);");
        x.refused("fetch(0, 0)", 0).does("pick(1, 1);").due("fetch(1, 0)", 1).due("load(1, 2)", 3)
            .dues("wheel(0, #)", 2, 970, 1, -1, 1, 0, 0, -1);
    }

    private static void promise23NoSuchCart() {
        Towns.rich().refusedAll(-1, "drop(-1); drop(2); drop(3); drop(LEAST); drop(MOST)");
    }

    private static void promise23NothingOnIt() {
        Towns.rich().refused("drop(1)", -1).due("drop(0)", 1).refused("drop(0)", -1);
    }

    private static void promise23NoRoom() {
        Towns.rich().does("drive(0, 3);").refused("drop(0)", -1).due("load(0, 4)", 2).due("wheel(2, 5)", 1)
            .does("hire(3, 1, NONE);").due("drop(0)", 1);
        Run.ofStands(1, 2).does("put(0, 0, 0); cart(1, 0); pick(0, 0); block(0, 0, true); block(0, 1, true);")
            .refused("drop(0)", -1).does("block(0, 1, false);").due("drop(0)", 1);
    }

    private static void promise23NoRoomForCargo() {
        Run.ofStands(2, 5).does("put(2, 0, 0); put(0, 0, 2); cart(3, 0); pick(0, 0); pick(0, 2); drive(0, 1);"
                + "block(1, 1, true); block(1, 3, true);")
            .refused("drop(0)", -1).dues("load(0, #)", 3, 1, 3, 999, 0, 1, -1)
            .does("block(1, 3, false);").due("drop(0)", 2).dues("dock(1, #)", -1, -2, 0, 0, -1, -3).due("drop(0)", 0);
    }

    private static void promise23LastRoom() {
        Run.ofStands(1, 12).does("put(0, 0, 11); put(2, 0, 9); cart(3, 0); pick(0, 11); pick(0, 10);"
                + "block(0, 0, true); block(0, 1, true); block(0, 2, true); block(0, 3, true); block(0, 4, true);"
                + "block(0, 5, true); block(0, 6, true); block(0, 7, true); block(0, 8, true); block(0, 9, true);")
            .due("drop(0)", 10).refused("drop(0)", -1).does("block(0, 9, false);").refused("drop(0)", -1)
            .does("hire(0, 10, NONE);").due("drop(0)", 9).due("dock(0, 10)", 1).due("dock(0, 11)", -1);
    }

    private static void promise23TheRowMovesUp() {
        new Run("stand(12); cart(8, 0); put(0, 0, 0); put(2, 0, 1); put(3, 0, 3); put(2, 0, 4); put(1, 0, 6);"
                + "put(0, 0, 7); pick(0, 0); pick(0, 1); pick(0, 3); pick(0, 4); pick(0, 6); pick(0, 7);")
            .dues("load(0, #)", 8, 0, 8, 0, 0, 1, 2, 3, 4, 5, -1, -1)
            .due("drop(0)", 0).dues("load(0, #)", 8, 0, 7, 0, 1, 2, 3, 4, 5, -1, -1, -1)
            .due("drop(0)", 1).dues("load(0, #)", 8, 0, 5, 0, 2, 3, 4, 5, -1, -1, -1, -1)
            .due("drop(0)", 3).dues("load(0, #)", 8, 0, 4, 0, 3, 4, 5, -1, -1, -1, -1, -1)
            .due("drop(0)", 4).dues("load(0, #)", 8, 0, 2, 0, 4, 5, -1, -1, -1, -1, -1, -1)
            .due("drop(0)", 6).dues("load(0, #)", 8, 0, 1, 0, 5, -1, -1, -1, -1, -1, -1, -1)
            .due("drop(0)", 7).dues("load(0, #)", 8, 0, 0, 0, -1, -1, -1, -1, -1, -1, -1, -1)
            .refused("drop(0)", -1);
    }

    private static void promise23TheRowFillsAgain() {
        Run x = Run.ofStands(1, 12).does("cart(8, 0);");
        for (int w = 0; w < 8; w++) {
            x.does("put(0, 0, " + w + "); pick(0, " + w + ");");
        }
        x.does("put(3, 0, 0); put(3, 0, 1);").refused("pick(0, 0)", -1)
            .due("drop(0)", 2).due("pick(0, 1)", 9).refused("pick(0, 0)", -1)
            .dues("load(0, #)", 8, 0, 8, 0, 1, 2, 3, 4, 5, 6, 7, 9, -1);
    }

    private static void promise23DoubtIsZero() {
        Towns.rich().due("wheel(2, 5)", 1).due("drop(0)", 1).due("wheel(2, 5)", 0).due("wheel(3, 5)", 1);
    }

    private static void promise24NoSuchCart() {
        Towns.rich().refusedAll(-3, "load(-1, 0); load(2, 0); load(2, 4); load(3, 1); load(LEAST, 0); load(MOST, 0)")
            .due("load(1, 0)", 8);
    }

    private static void promise24WhatBelowZero() {
        Towns.rich().refusedAll(-3, "load(0, -1); load(0, -2); load(0, LEAST); load(2, -1)").due("load(0, 0)", 3);
    }

    private static void promise24BehindTheLastWheel() {
        Towns.rich().dues("load(0, #)", 3, 0, 1, 0, 2, -1, -1).refusedAll(-1, "load(0, 5); load(0, 12); load(0, MOST)");
    }

    private static void promise24Empty() {
        Towns.rich().dues("load(1, #)", 8, 1, 0, 30, -1, -1, -1, -1, -1, -1, -1, -1, -1);
    }

    private static void promise24Full() {
        Run x = Run.ofStands(1, 12).does("cart(8, 0);");
        for (int w = 0; w < 8; w++) {
            x.does("put(0, 0, 0); pick(0, 0);");
        }
        x.due("load(0, 11)", 7).due("load(0, 12)", -1).due("load(0, 13)", -1).due("load(0, MOST)", -1);
    }
}
