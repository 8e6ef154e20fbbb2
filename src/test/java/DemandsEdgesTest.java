/** The edges of promises 25 to 27, one by one; a method's name begins with the number of its promise. */
public final class DemandsEdgesTest {
    public static void main(String[] args) {
        promise25NoSuchStand();
        promise25TheFirstHour();
        promise25TheLastHour();
        promise25SoManyBring();
        promise25SoManyWant();
        promise25ARefusedOneMakesNoDemand();
        promise25TheOtherHours();
        promise26NoSuchStand();
        promise26WithNone();
        promise26WithAllDocks();
        promise26BlockedDocks();
        promise26NoDocksAtAll();
        promise26AnotherWhat();
        promise26TurnedAwayWhereItIsFull();
        promise26TurnedAwayWhereItIsEmpty();
        promise26ByTurnsFromFull();
        promise26ByTurnsFromEmpty();
        promise26ThoseWhoAreLeft();
        promise26TheFirstHourOfAll();
        promise26Missing();
        promise27NoSuchStand();
        promise27Missing();
        promise27OfSeveralTheLeast();
        promise27NoneIsEnough();
        promise27AllDocks();
        promise27NoDocksAtAll();
        promise27LessThanAreThere();
        Due.close("DemandsEdgesTest");
    }

    private static void promise25NoSuchStand() {
        Towns.rich().refusedAll(0, "demand(-1, 0, 1, 1); demand(4, 0, 1, 1); demand(LEAST, 0, 1, 1);"
                + "demand(MOST, 0, 1, 1)")
            .due("demand(3, 0, 1, 1)", 1).due("demand(0, 0, 1, 1)", 1);
    }

    private static void promise25TheFirstHour() {
        Towns.rich().refusedAll(0, "demand(0, -1, 1, 1); demand(2, -1, 1, 1); demand(0, LEAST, 1, 1)")
            .due("demand(2, 0, 0, 1)", 1).dues("runs(2, 0, #)", 1, 0, 0);
    }

    private static void promise25TheLastHour() {
        Towns.rich().refusedAll(0, "demand(0, 24, 1, 1); demand(2, 24, 1, 1); demand(0, MOST, 1, 1)")
            .due("demand(2, 23, 0, 1)", 1).dues("runs(2, 0, #)", 1, 23, 0);
    }

    private static void promise25SoManyBring() {
        Towns.rich().refusedAll(0, "demand(0, 0, -1, 1); demand(0, 0, 100, 1); demand(2, 0, -1, 0);"
                + "demand(2, 0, 100, 0); demand(0, 0, LEAST, 1); demand(0, 0, MOST, 1)")
            .due("demand(2, 4, 99, 0)", 1).dues("runs(2, 0, #)", 99 - 3, 4, 3)
            .due("demand(2, 4, 0, 0)", 1).dues("runs(2, 0, #)", 0, -1, 0);
    }

    private static void promise25SoManyWant() {
        Towns.rich().refusedAll(0, "demand(0, 0, 2, -1); demand(0, 0, 2, 100); demand(2, 0, 0, -1);"
                + "demand(2, 0, 0, 100); demand(0, 0, 2, LEAST); demand(0, 0, 2, MOST)")
            .due("demand(2, 4, 0, 99)", 1).dues("runs(2, 3, #)", 99 - 3, 4, 0)
            .due("demand(2, 4, 0, 0)", 1).dues("runs(2, 3, #)", 0, -1, 3);
    }

    private static void promise25ARefusedOneMakesNoDemand() {
        Towns.rich().refusedAll(0, "demand(2, 24, 1, 1); demand(2, 0, 100, 1); demand(2, 0, 1, 100)")
            .refused("tear(2, 1)", 0).does("demand(2, 0, 0, 0);").due("tear(2, 1)", 1);
    }

    private static void promise25TheOtherHours() {
        Run x = Run.ofStands(1, 12);
        for (int hour = 0; hour < 24; hour++) {
            x.due("demand(0, " + hour + ", 0, 99)", 1).due("runs(0, 0, 0)", 99).due("runs(0, 0, 1)", hour)
                .due("tear(0, 1)", 1);
        }
        for (int hour = 23; hour >= 0; hour--) {
            x.due("demand(0, " + hour + ", 0, 1)", 1).due("runs(0, 0, 0)", 24 - hour).due("runs(0, 0, 1)", hour);
        }
        x.due("demand(0, 5, 0, 0)", 1).due("runs(0, 0, 0)", 23);
    }

    private static void promise26NoSuchStand() {
        Towns.rich().refusedAll(-3, "runs(-1, 0, 0); runs(4, 0, 0); runs(LEAST, 0, 1); runs(MOST, 0, 2)")
            .due("runs(3, 0, 0)", 0);
    }

    private static void promise26WithNone() {
        Towns.rich().refusedAll(-3, "runs(0, -1, 0); runs(0, -1, 2); runs(3, -1, 0); runs(0, LEAST, 1)")
            .dues("runs(0, 0, #)", 4, 23, 0, -3);
    }

    private static void promise26WithAllDocks() {
        Towns.rich().refusedAll(-3, "runs(1, 4, 0); runs(1, 4, 2); runs(3, 3, 0); runs(1, MOST, 0)")
            .dues("runs(1, 3, #)", 5, 7, 0, -3).dues("runs(3, 2, #)", 0, -1, 2);
        Run.ofStands(1, 12).refusedAll(-3, "runs(0, 13, 2)").due("runs(0, 12, 2)", 12);
    }

    private static void promise26BlockedDocks() {
        Towns.rich().refusedAll(-3, "runs(0, 6, 2); runs(2, 4, 2)").due("runs(0, 5, 2)", 0).due("runs(2, 3, 2)", 3)
            .does("block(0, 5, false);").due("runs(0, 6, 2)", 1).refused("runs(0, 7, 2)", -3);
    }

    private static void promise26NoDocksAtAll() {
        Run.ofStands(1, 2).does("block(0, 0, true); block(0, 1, true);").dues("runs(0, 0, #)", 0, -1, 0)
            .refused("runs(0, 1, 0)", -3).does("demand(0, 3, 2, 2); demand(0, 9, 1, 2);").dues("runs(0, 0, #)", 7, 3, 0)
            .does("block(0, 0, false);").dues("runs(0, 0, #)", 1, 9, 0).dues("runs(0, 1, #)", 2, 3, 0);
    }

    private static void promise26AnotherWhat() {
        Towns.rich().refusedAll(-3, "runs(0, 0, -1); runs(0, 0, 3); runs(3, 0, 3); runs(0, 0, LEAST); runs(0, 0, MOST)")
            .due("runs(0, 0, 0)", 4).due("runs(0, 0, 2)", 0);
    }

    private static void promise26TurnedAwayWhereItIsFull() {
        Run.ofStands(1, 4).does("demand(0, 0, 1, 0);").dues("runs(0, 3, #)", 0, -1, 4).dues("runs(0, 4, #)", 1, 0, 4);
    }

    private static void promise26TurnedAwayWhereItIsEmpty() {
        Run.ofStands(1, 4).does("demand(0, 0, 0, 1);").dues("runs(0, 1, #)", 0, -1, 0).dues("runs(0, 0, #)", 1, 0, 0);
    }

    private static void promise26ByTurnsFromFull() {
        Run.ofStands(1, 4).does("demand(0, 6, 99, 99);").dues("runs(0, 4, #)", 1, 6, 3).dues("runs(0, 3, #)", 0, -1, 3);
    }

    private static void promise26ByTurnsFromEmpty() {
        Run.ofStands(1, 2).does("demand(0, 6, 99, 99);").dues("runs(0, 0, #)", 0, -1, 0)
            .dues("runs(0, 1, #)", 0, -1, 1);
    }

    private static void promise26ThoseWhoAreLeft() {
        Run.ofStands(1, 2).does("demand(0, 6, 1, 2);").dues("runs(0, 0, #)", 1, 6, 0).dues("runs(0, 1, #)", 0, -1, 0)
            .does("demand(0, 6, 2, 1);").dues("runs(0, 0, #)", 0, -1, 1).dues("runs(0, 1, #)", 0, -1, 2)
            .dues("runs(0, 2, #)", 1, 6, 2);
    }

    private static void promise26TheFirstHourOfAll() {
        Run.ofStands(1, 2).does("demand(0, 23, 0, 3);").dues("runs(0, 2, #)", 1, 23, 0)
            .does("demand(0, 0, 3, 0);").dues("runs(0, 2, #)", 4, 0, 0).dues("runs(0, 0, #)", 2, 0, 0)
            .does("demand(0, 0, 2, 0);").dues("runs(0, 0, #)", 1, 23, 0);
    }

    private static void promise26Missing() {
        Towns.rich().dues("runs(3, 0, #)", 0, -1, 0).dues("runs(3, 2, #)", 0, -1, 2).refused("runs(3, 2, 3)", -3)
            .does("tear(0, 1);").dues("runs(0, 5, #)", 0, -1, 5);
    }

    private static void promise27NoSuchStand() {
        Towns.rich().refusedAll(-1000, "shortage(-1); shortage(4); shortage(12); shortage(LEAST); shortage(MOST)")
            .due("shortage(3)", -2);
    }

    private static void promise27Missing() {
        Run.ofStands(1, 6).due("shortage(0)", 0).does("put(2, 0, 0); put(0, 0, 2);").due("shortage(0)", -2);
    }

    private static void promise27OfSeveralTheLeast() {
        Run.ofStands(1, 6).does("demand(0, 0, 0, 2);").due("shortage(0)", 2)
            .does("demand(0, 1, 4, 0);").due("shortage(0)", 2)
            .does("demand(0, 1, 7, 0);").due("shortage(0)", 2)
            .does("demand(0, 0, 2, 0);").due("shortage(0)", 0);
    }

    private static void promise27NoneIsEnough() {
        Run.ofStands(1, 2).does("demand(0, 0, 1, 0); demand(0, 23, 0, 1);").due("shortage(0)", 0)
            .does("demand(0, 23, 0, 2);").due("shortage(0)", 1).does("demand(0, 0, 2, 0);").due("shortage(0)", 0);
    }

    private static void promise27AllDocks() {
        Run.ofStands(1, 6).does("demand(0, 0, 0, 5);").due("shortage(0)", 5).does("demand(0, 0, 0, 6);")
            .due("shortage(0)", 6).does("demand(0, 0, 0, 7);").due("shortage(0)", 6)
            .does("block(0, 3, true);").due("shortage(0)", 5);
    }

    private static void promise27NoDocksAtAll() {
        Run.ofStands(1, 2).does("demand(0, 0, 0, 9); block(0, 0, true);").due("shortage(0)", 1)
            .does("block(0, 1, true);").due("shortage(0)", 0);
    }

    private static void promise27LessThanAreThere() {
        Run.ofStands(1, 6).does("put(0, 0, 0); put(2, 0, 1); put(3, 0, 3); demand(0, 0, 0, 3);").due("shortage(0)", 0)
            .does("demand(0, 0, 0, 2);").due("shortage(0)", -1).does("demand(0, 0, 0, 4);").due("shortage(0)", 1)
            .does("cart(1, 0); pick(0, 0);").due("shortage(0)", 2);
    }
}
