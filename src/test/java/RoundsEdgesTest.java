/** The edges of promises 28 to 31, one by one; a method's name begins with the number of its promise. */
public final class RoundsEdgesTest {
    public static void main(String[] args) {
        promise28NoSuchStand();
        promise28NothingTold();
        promise28TwelveIsTheMost();
        promise29NoStandOutOfBalance();
        promise29NoSuchCart();
        promise29NotEmpty();
        promise29SevenStandsAreTheMost();
        promise29DocksJustEnough();
        promise29LoadJustEnough();
        promise29LoadOfEightIsFull();
        promise29NothingAtTheEnd();
        promise29EnoughForEach();
        promise29FromWhereItStands();
        promise29TheLeastLength();
        promise29TheLeastFirstStand();
        promise29TheLeastSecondStand();
        promise29CargoIsNotMovable();
        promise29WantsMoreThanDocks();
        promise29WhatWasAtHandStays();
        promise30NoneAtHand();
        promise30BehindTheLast();
        promise30NothingAtHandAnyMore();
        promise31Refused();
        promise31NotEmpty();
        promise31NoStandOutOfBalance();
        promise31SevenStands();
        promise31FromDockZeroOn();
        promise31AsManyAsAreTooMany();
        promise31FullLoad();
        promise31LastRoom();
        promise31TwiceIsNothing();
        Due.close("RoundsEdgesTest");
    }

    private static void promise28NoSuchStand() {
        Towns.rich().refusedAll(0, "want(-1, 3); want(4, 3); want(12, NONE); want(LEAST, 0); want(MOST, 12)")
            .due("want(0, 3)", 1).due("tell(0, 5)", 3);
    }

    private static void promise28NothingTold() {
        Towns.rich().refusedAll(0, "want(1, -2); want(1, -3); want(0, -2); want(1, LEAST)").due("tell(1, 5)", 3)
            .due("want(1, NONE)", 1).due("tell(1, 5)", -1).due("want(1, NONE)", 1)
            .due("want(1, 0)", 1).due("tell(1, 5)", 0);
    }

    private static void promise28TwelveIsTheMost() {
        Towns.rich().refusedAll(0, "want(1, 13); want(1, 14); want(0, 13); want(1, MOST)").due("want(1, 12)", 1)
            .due("tell(1, 5)", 12).due("want(3, 12)", 1).due("tell(3, 5)", 12);
    }

    /** The rich town with stands in balance but for 1, which lacks one, and 2, which has one too many. */
    private static Run rounds() {
        return Towns.rich().does("mend(7); put(0, 2, 0); want(2, 1); want(3, NONE); plan(1);")
            .dues("round(#)", 2, 1, -1);
    }

    private static void promise29NoStandOutOfBalance() {
        rounds().does("want(1, 2); want(2, 2); want(0, 1);").due("plan(1)", 0).dues("round(#)", -1, -1)
            .due("tell(1, 3)", 2).dues("load(1, #)", 8, 1, 0, 30, -1)
            .does("want(0, 0);").refused("plan(1)", -1)
            .does("want(0, 2);").refused("plan(1)", -1).does("want(0, NONE);").due("plan(1)", 0);
        Run.ofStands(12, 2).does("cart(1, 0);").due("plan(0)", 0).due("round(0)", -1);
    }

    private static void promise29NoSuchCart() {
        rounds().refusedAll(-1, "plan(-1); plan(2); plan(3); plan(LEAST); plan(MOST)").due("plan(1)", 60)
            .does("want(1, NONE); want(2, NONE);").refusedAll(-1, "plan(-1); plan(2)").dues("round(#)", 2, 1, -1);
    }

    private static void promise29NotEmpty() {
        rounds().refused("plan(0)", -1).does("drop(0);").due("plan(0)", 100);
        rounds().does("want(1, NONE); want(2, NONE);").refused("plan(0)", -1);
        new Run("stand(2); stand(2); put(2, 0, 0); put(0, 1, 0); cart(2, 0); cart(2, 0); pick(0, 0);"
                + "want(0, 1); want(1, 0);").refused("plan(0)", -1).due("plan(1)", 2 * 999);
    }

    private static void promise29SevenStandsAreTheMost() {
        Towns.star(6).due("plan(0)", 60).dues("round(#)", 0, 1, 2, 3, 4, 5, 6, -1);
        Towns.star(7).refused("plan(0)", -1).dues("round(#)", -1, -1)
            .does("want(0, 1); want(4, 0);").due("plan(0)", 30 + 999 + 20).dues("round(#)", 0, 1, 2, 3, 5, 6, 7, -1)
            .does("want(8, 1); want(0, 0);").refused("plan(0)", -1).dues("round(#)", 0, 1, 2, 3, 5, 6, 7, -1);
        // A stand that wants as many as it has is in balance, and does not count.
        Towns.star(6).does("want(7, 0); want(8, 0);").due("plan(0)", 60);
    }

    private static void promise29DocksJustEnough() {
        String town = "stand(4); stand(4); put(0, 0, 0); put(0, 0, 1); put(0, 0, 2); want(0, 0); want(1, 3);"
            + "cart(8, 0);";
        new Run(town).does("block(1, 0, true);").due("plan(0)", 999)
            .does("block(1, 2, true);").refused("plan(0)", -1).does("block(1, 2, false);").due("plan(0)", 999);
        new Run(town).does("put(2, 1, 2);").refused("plan(0)", -1).does("put(0, 1, 0);").refused("plan(0)", -1)
            .does("want(1, 2); want(0, 2);").due("plan(0)", 999);
        // Too little room at one stand alone, where a round would be there but for that.
        Towns.star(3).due("plan(0)", 30).does("put(2, 2, 0); put(2, 2, 2); put(2, 2, 4); put(2, 2, 6); put(2, 2, 8);")
            .due("plan(0)", 30).does("block(2, 10, true);").due("plan(0)", 30).does("block(2, 11, true);")
            .refused("plan(0)", -1).dues("round(#)", 0, 1, 2, 3, -1);
    }

    private static void promise29LoadJustEnough() {
        String town = "stand(4); stand(4); put(0, 0, 0); put(3, 0, 1); put(1, 0, 2); put(0, 0, 3); want(0, 0);"
            + "want(1, 4);";
        new Run(town).does("cart(3, 0); cart(4, 0); cart(8, 1);").refused("plan(0)", -1).due("plan(1)", 999)
            .due("plan(2)", 1998).refused("plan(0)", -1)
            .does("want(0, 1); want(1, 3);").due("plan(0)", 999);
    }

    private static void promise29LoadOfEightIsFull() {
        String town = "stand(12); stand(12); want(0, 0); cart(8, 0);";
        for (int w = 0; w < 8; w++) {
            town += "put(0, 0, " + w + ");";
        }
        new Run(town).does("want(1, 8);").due("plan(0)", 999)
            .does("put(0, 0, 8); want(1, 9);").refused("plan(0)", -1).does("want(0, 1); want(1, 8);")
            .due("plan(0)", 999);
    }

    private static void promise29NothingAtTheEnd() {
        Towns.star(2).due("plan(0)", 20).does("put(0, 0, 2);").refused("plan(0)", -1)
            .does("want(0, 1);").due("plan(0)", 20).does("want(0, 2);").refused("plan(0)", -1)
            .does("want(1, NONE);").due("plan(0)", 999).does("want(2, NONE);").refused("plan(0)", -1)
            .does("want(0, NONE); want(3, 1);").refused("plan(0)", -1);
    }

    private static void promise29EnoughForEach() {
        // The way over stand 0 or 1 would be the shorter one, but what they lack comes from 2.
        Run x = new Run("stand(2); stand(2); stand(3); put(0, 2, 0); put(0, 2, 1); want(0, 1); want(1, 1); want(2, 0);"
            + "length(0, 1, 1); length(1, 2, 5); length(0, 2, 6); cart(2, 0); cart(1, 1);");
        x.due("plan(0)", 6 + 5 + 1).dues("round(#)", 2, 1, 0, -1).refused("plan(1)", -1)
            .does("drive(0, 2);").due("plan(0)", 6).dues("round(#)", 2, 1, 0, -1)
            .does("length(0, 2, 4);").due("plan(0)", 5).dues("round(#)", 2, 0, 1, -1);
    }

    private static void promise29FromWhereItStands() {
        Towns.star(1).due("plan(0)", 10).does("drive(0, 1);").due("plan(0)", 20).dues("round(#)", 0, 1, -1)
            .does("drive(0, 8);").due("plan(0)", 999 + 10);
    }

    private static void promise29TheLeastLength() {
        Run x = Towns.star(2).does("length(0, 2, 20);").due("plan(0)", 20).dues("round(#)", 0, 1, 2, -1);
        x.does("length(0, 1, 21);").due("plan(0)", 30).dues("round(#)", 0, 2, 1, -1)
            .does("length(0, 1, 20);").due("plan(0)", 30).dues("round(#)", 0, 1, 2, -1)
            .does("length(0, 1, 19);").due("plan(0)", 29).dues("round(#)", 0, 1, 2, -1);
    }

    private static void promise29TheLeastFirstStand() {
        String town = "stand(2); stand(2); stand(2); stand(2); put(0, 1, 0); put(0, 2, 0); want(1, 0); want(2, 0);"
            + "want(3, 2); cart(2, 0);";
        new Run(town).due("plan(0)", 3 * 999).dues("round(#)", 1, 2, 3, -1)
            .does("length(0, 2, 998); length(1, 3, 998);").due("plan(0)", 998 + 999 + 998).dues("round(#)", 2, 1, 3, -1)
            .does("length(0, 1, 998); length(2, 3, 998);").due("plan(0)", 998 + 999 + 998)
            .dues("round(#)", 1, 2, 3, -1);
    }

    private static void promise29TheLeastSecondStand() {
        Towns.star(3).does("length(0, 1, 7); length(0, 2, 7); length(0, 3, 7); length(1, 2, 7); length(1, 3, 7);"
                + "length(2, 3, 7);").due("plan(0)", 21).dues("round(#)", 0, 1, 2, 3, -1)
            .does("length(0, 1, 8);").due("plan(0)", 21).dues("round(#)", 0, 2, 1, 3, -1)
            .does("length(2, 1, 8);").due("plan(0)", 21).dues("round(#)", 0, 2, 3, 1, -1)
            .does("length(2, 3, 8);").due("plan(0)", 22).dues("round(#)", 0, 2, 1, 3, -1)
            .does("length(1, 3, 8);").due("plan(0)", 23).dues("round(#)", 0, 2, 1, 3, -1)
            .does("length(0, 2, 8); length(0, 3, 8);").due("plan(0)", 24).dues("round(#)", 0, 1, 2, 3, -1);
    }

    private static void promise29CargoIsNotMovable() {
        new Run("stand(4); stand(4); put(2, 0, 0); put(0, 0, 2); want(0, 1); want(1, 0); cart(8, 0);").due("plan(0)", 0)
            .does("want(0, 2);").refused("plan(0)", -1)
            .does("want(0, 0); want(1, 1);").due("plan(0)", 999).does("hire(0, 2, NONE);").refused("plan(0)", -1);
    }

    private static void promise29WantsMoreThanDocks() {
        new Run("stand(2); stand(12); put(0, 1, 0); put(0, 1, 1); put(0, 1, 2); want(1, 0); want(0, 2); cart(8, 0);")
            .refused("plan(0)", -1).does("want(1, 1);").due("plan(0)", 1998)
            .does("want(0, 3); want(1, 0);").refused("plan(0)", -1)
            .does("want(0, 12);").refused("plan(0)", -1).dues("round(#)", 1, 0, -1);
    }

    private static void promise29WhatWasAtHandStays() {
        Towns.star(2).due("plan(0)", 20).does("want(0, 1);").refused("plan(0)", -1).dues("round(#)", 0, 1, 2, -1)
            .does("want(0, NONE); want(1, NONE); want(2, NONE);").refused("plan(1)", -1)
            .dues("round(#)", 0, 1, 2, -1).due("plan(0)", 0).dues("round(#)", -1, -1, -1)
            .does("want(0, 1);").refused("plan(0)", -1).dues("round(#)", -1, -1, -1)
            .does("want(1, 1);").due("plan(0)", 10).dues("round(#)", 0, 1, -1, -1);
    }

    private static void promise30NoneAtHand() {
        Towns.star(2).refusedAll(-1, "round(0); round(1); round(-1)").does("want(0, 1);").refused("plan(0)", -1)
            .refused("round(0)", -1);
    }

    private static void promise30BehindTheLast() {
        Towns.star(6).does("plan(0);").due("round(0)", 0).due("round(6)", 6)
            .refusedAll(-1, "round(-1); round(7); round(8); round(LEAST); round(MOST)")
            .does("want(6, NONE); want(0, 1); plan(0);").due("round(5)", 5).refused("round(6)", -1);
    }

    private static void promise30NothingAtHandAnyMore() {
        Towns.star(2).does("plan(0); carry(0);").dues("round(#)", 0, 1, 2, -1).due("carry(0)", 0)
            .refusedAll(-1, "round(0); round(1); round(2)");
    }

    private static void promise31Refused() {
        rounds().refusedAll(-1, "carry(-1); carry(2); carry(3); carry(LEAST); carry(MOST)")
            .does("want(2, NONE);").refused("carry(1)", -1).does("want(1, 1); want(2, 3); block(2, 3, true);")
            .refused("carry(1)", -1).dues("round(#)", 2, 1, -1).does("block(2, 3, false);").due("carry(1)", 30);
        Towns.star(7).refused("carry(0)", -1).does("want(7, NONE); want(0, 1);").due("carry(0)", 60);
        Towns.star(2).does("cart(1, 8); cart(2, 8);").refusedAll(-1, "carry(1); carry(3)").due("carry(2)", 999 + 20);
    }

    private static void promise31NotEmpty() {
        rounds().refused("carry(0)", -1).does("want(1, NONE); want(2, NONE);").refused("carry(0)", -1)
            .does("drop(0);").due("carry(0)", 0);
    }

    private static void promise31NoStandOutOfBalance() {
        rounds().does("want(1, 2); want(2, 2);").due("carry(1)", 0).dues("load(1, #)", 8, 1, 0, 30, -1)
            .dues("round(#)", -1, -1).dues("dock(2, #)", 11, 7, -2, -1);
    }

    private static void promise31SevenStands() {
        Towns.star(6).due("carry(0)", 60).dues("load(0, #)", 8, 6, 0, 60, -1).due("tell(0, 3)", 0)
            .dues("tell(#, 3)", 0, 1, 1, 1, 1, 1, 1, 0, 0).dues("dock(#, 0)", -1, 0, 1, 2, 3, 4, 5, -1, -1);
    }

    private static void promise31FromDockZeroOn() {
        new Run("stand(6); stand(6); put(2, 0, 0); block(0, 2, true); put(0, 0, 5); put(3, 0, 3); put(1, 0, 4);"
                + "want(0, 1); want(1, 2); block(1, 0, true); put(2, 1, 2); cart(2, 0);").due("carry(0)", 999)
            .dues("dock(0, #)", 0, 0, -2, -1, -1, 1, -3).dues("dock(1, #)", -2, 2, 4, 4, 3, -1, -3)
            .dues("wheel(2, #)", 3, 0, 0, 1, 1, 0, 0, -1).dues("load(0, #)", 2, 1, 0, 999, -1);
    }

    private static void promise31AsManyAsAreTooMany() {
        // There is load, room and wheels for more.
        new Run("stand(5); stand(5); put(0, 0, 0); put(0, 0, 1); put(0, 0, 2); put(0, 0, 4); want(0, 3); want(1, 1);"
                + "cart(8, 0);").due("carry(0)", 999).dues("dock(0, #)", -1, 1, 2, -1, 3, -3)
            .dues("dock(1, #)", 0, -1, -1, -1, -1, -3).due("load(0, 2)", 0)
            .does("want(0, 0); want(1, 4);").due("carry(0)", 1998).dues("dock(1, #)", 0, 1, 2, 3, -1, -3);
    }

    private static void promise31FullLoad() {
        Run x = new Run("stand(12); stand(12); want(0, 4); want(1, 8); cart(8, 1);");
        for (int d = 0; d < 12; d++) {
            x.does("put(" + (d % 2 == 0 ? 0 : 3) + ", 0, " + d + ");");
        }
        x.due("carry(0)", 1998).dues("dock(0, #)", -1, -1, -1, -1, -1, -1, -1, -1, 8, 9, 10, 11)
            .dues("dock(1, #)", 0, 1, 2, 3, 4, 5, 6, 7, -1, -1, -1, -1).due("load(0, 2)", 0).due("load(0, 3)", 1998);
    }

    private static void promise31LastRoom() {
        new Run("stand(2); stand(3); put(0, 0, 0); put(0, 0, 1); put(0, 1, 1); want(0, 0); want(1, 3); cart(2, 0);")
            .due("carry(0)", 999).dues("dock(1, #)", 0, 2, 1, -3).dues("dock(0, #)", -1, -1, -3);
        new Run("stand(2); stand(3); put(0, 0, 0); put(0, 0, 1); put(0, 1, 1); want(0, 0); want(1, 3); cart(2, 0);"
                + "block(1, 2, true);").refused("carry(0)", -1).due("load(0, 1)", 0);
    }

    private static void promise31TwiceIsNothing() {
        Towns.star(3).due("carry(0)", 30).due("carry(0)", 0).due("plan(0)", 0).due("load(0, 3)", 30)
            .due("load(0, 1)", 3);
    }
}
