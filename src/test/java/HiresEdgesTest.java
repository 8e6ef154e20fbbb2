/** The edges of promises 16 to 18, one by one; a method's name begins with the number of its promise. */
public final class HiresEdgesTest {
    public static void main(String[] args) {
        promise16NoSuchDock();
        promise16NoWheelInIt();
        promise16AChild();
        promise16Broken();
        promise16ChargeJustEnough();
        promise16ChargeOfCargoJustEnough();
        promise16ChargeForTheLeastLength();
        promise16WithoutAnotherStand();
        promise16ChargeIsNoMatterOfOthers();
        promise16ChildIsNone();
        promise16NoChildInThatDock();
        promise16ChildBroken();
        promise16EachRefusalAheadOfTheNext();
        promise16ARefusedOneLeavesDoubts();
        promise16CargoByEitherDock();
        promise17NoSuchWheel();
        promise17NotHired();
        promise17AChild();
        promise17NoSuchStand();
        promise17EndsOnce();
        promise17WhereItWasHired();
        promise17OneDockLeft();
        promise17NoDockLeft();
        promise17RoomForOneOfTwo();
        promise17RoomForCargo();
        promise17RoomAtTheLastOfEight();
        promise17RoomAtNoneOfEight();
        promise17RowIsMissing();
        promise17RowOfTheFirstAlone();
        promise17StreetOfTheFirstAndLastStand();
        promise17ChargeDownToZero();
        promise17ChargeOfAllTheWay();
        promise18BehindTheLastHour();
        promise18ChargeUpToTheMost();
        promise18InDocksAlone();
        Due.close("HiresEdgesTest");
    }

    private static void promise16NoSuchDock() {
        Towns.rich().refusedAll(-1, "hire(-1, 0, NONE); hire(4, 0, NONE); hire(0, -1, NONE); hire(0, 6, NONE);"
                + "hire(3, 2, NONE); hire(LEAST, 0, NONE); hire(0, LEAST, NONE); hire(MOST, MOST, 0)")
            .due("hire(3, 0, NONE)", 8).due("hire(3, 1, NONE)", 9);
    }

    private static void promise16NoWheelInIt() {
        Towns.rich().refusedAll(-1, "hire(0, 1, NONE); hire(0, 2, 0); hire(0, 5, NONE); hire(2, 2, NONE)")
            .does("hire(3, 0, NONE);").refused("hire(3, 0, NONE)", -1);
    }

    private static void promise16AChild() {
        Towns.rich().refusedAll(-2, "hire(0, 0, NONE); hire(1, 1, NONE); hire(0, 0, 0); hire(0, 0, 9)")
            .does("fault(10);").refused("hire(0, 0, NONE)", -2);
    }

    private static void promise16Broken() {
        Towns.rich().refusedAll(-3, "hire(1, 0, NONE); hire(1, 0, 1); hire(2, 1, NONE)").does("mend(4); mend(7);")
            .due("hire(1, 0, 1)", 4).due("hire(2, 1, NONE)", 7);
    }

    private static void promise16ChargeJustEnough() {
        for (int length : new int[] {1, 250, 499, 500}) {
            new Run("stand(2); stand(2); put(1, 0, 0); length(0, 1, " + length + ");")
                .does(Towns.charge(0, 2 * length - 1)).refused("hire(0, 0, NONE)", -4)
                .does(Towns.charge(0, 2 * length)).due("hire(0, 0, NONE)", 0).due("wheel(0, 1)", 2 * length);
        }
        new Run("stand(2); stand(2); put(1, 0, 0); length(0, 1, 501);").refused("hire(0, 0, NONE)", -4);
        new Run("stand(2); stand(2); put(1, 0, 0);").refused("hire(0, 0, NONE)", -4);
    }

    private static void promise16ChargeOfCargoJustEnough() {
        for (int length : new int[] {1, 100, 333}) {
            new Run("stand(2); stand(2); put(2, 0, 0); length(0, 1, " + length + ");")
                .does(Towns.charge(0, 3 * length - 1)).refusedAll(-4, "hire(0, 0, NONE); hire(0, 1, NONE)")
                .does(Towns.charge(0, 3 * length)).due("hire(0, 0, NONE)", 0);
        }
        new Run("stand(2); stand(2); put(2, 0, 0); length(0, 1, 334);").refused("hire(0, 0, NONE)", -4);
    }

    private static void promise16ChargeForTheLeastLength() {
        String town = "stand(2); stand(2); stand(2); put(1, 1, 0); length(0, 1, 300); length(1, 2, 200);"
            + "length(0, 2, 1);";
        new Run(town).does(Towns.charge(0, 399)).refused("hire(1, 0, NONE)", -4)
            .does("length(0, 1, 199);").due("hire(1, 0, NONE)", 0);
        new Run(town).does(Towns.charge(0, 400)).due("hire(1, 0, NONE)", 0);
    }

    private static void promise16WithoutAnotherStand() {
        Run.ofStands(1, 5).does("put(1, 0, 0); put(2, 0, 1); charge(0, 0); charge(1, 0);")
            .due("hire(0, 0, NONE)", 0).does("end(0, 0); stand(2);")
            .refusedAll(-4, "hire(0, 0, NONE); hire(0, 1, NONE)");
        Run.ofStands(1, 5).does("put(2, 0, 1); charge(0, 0);").due("hire(0, 2, NONE)", 0);
    }

    private static void promise16ChargeIsNoMatterOfOthers() {
        Run.ofStands(2, 3).does("put(0, 0, 0); put(3, 0, 1);").due("hire(0, 0, 1)", 0).due("wheel(0, 1)", 0);
    }

    private static void promise16ChildIsNone() {
        Towns.rich().due("hire(0, 3, NONE)", 3).due("wheel(3, 7)", -1).due("wheel(10, 2)", 0).due("wheel(10, 5)", 1);
        Towns.rich().due("hire(0, 3, 0)", 3).due("wheel(3, 7)", 10).due("wheel(10, 7)", 3).due("wheel(10, 5)", 0);
    }

    private static void promise16NoChildInThatDock() {
        Towns.rich().does("put(0, 0, 1);")
            .refusedAll(-5, "hire(0, 3, -2); hire(0, 3, LEAST); hire(0, 3, 6); hire(0, 3, MOST); hire(0, 3, 2);"
                + "hire(0, 3, 5); hire(0, 3, 1); hire(0, 3, 3); hire(0, 3, 4); hire(0, 4, 3)")
            .refused("hire(3, 0, 1)", -5)
            .due("hire(0, 1, 0)", 11);
        // The child is looked for in docks of the stand of the wheel alone.
        Run.ofStands(2, 3).does("put(0, 0, 0); put(3, 1, 2);").refused("hire(0, 0, 2)", -5);
    }

    private static void promise16ChildBroken() {
        Towns.rich().does("fault(10);").refused("hire(0, 3, 0)", -5).does("test(10);").refused("hire(0, 3, 0)", -5)
            .does("mend(10);").due("hire(0, 3, 0)", 3);
    }

    private static void promise16EachRefusalAheadOfTheNext() {
        String town = "stand(4); stand(4); put(3, 0, 0); put(1, 0, 1); put(1, 0, 2);";
        new Run(town).does("fault(0); fault(1);")
            .refused("hire(0, 3, 3)", -1)
            .refused("hire(0, 0, 3)", -2)
            .refused("hire(0, 1, 3)", -3).refused("hire(0, 1, NONE)", -3).refused("hire(0, 1, 0)", -3)
            .refused("hire(0, 2, 3)", -4).refused("hire(0, 2, 0)", -4).refused("hire(0, 2, NONE)", -4)
            .does("mend(1);").refused("hire(0, 1, 3)", -4)
            .does("length(0, 1, 500);").refused("hire(0, 1, 3)", -5).refused("hire(0, 1, 0)", -5)
            .does("mend(0);").due("hire(0, 1, 0)", 1);
    }

    private static void promise16ARefusedOneLeavesDoubts() {
        Towns.rich().due("wheel(3, 5)", 1).due("wheel(10, 5)", 0)
            .refused("hire(0, 0, NONE)", -2).refused("hire(0, 3, 3)", -5)
            .due("wheel(3, 5)", 1).due("wheel(10, 5)", 0);
    }

    private static void promise16CargoByEitherDock() {
        for (int dock = 3; dock <= 4; dock++) {
            Towns.rich().due("hire(0, " + dock + ", NONE)", 3).dues("dock(0, #)", 10, -1, -1, -1, -1, -2);
        }
    }

    private static void promise17NoSuchWheel() {
        Towns.rich().refusedAll(-1, "end(-1, 0); end(11, 0); end(60, 0); end(LEAST, 0); end(MOST, 3)");
    }

    private static void promise17NotHired() {
        Towns.rich().refusedAll(-1, "end(2, 0); end(3, 0); end(4, 1); end(6, 3); end(6, 0); end(10, 0)");
    }

    private static void promise17AChild() {
        Towns.rich().refusedAll(-1, "end(1, 0); end(1, 3)").due("end(0, 0)", 0).due("wheel(1, 2)", 0);
    }

    private static void promise17NoSuchStand() {
        Towns.rich().refusedAll(-1, "end(0, -1); end(0, 4); end(0, 12); end(0, LEAST); end(0, MOST)")
            .due("end(0, 3)", 103);
    }

    private static void promise17EndsOnce() {
        Towns.rich().due("end(0, 0)", 0).refusedAll(-1, "end(0, 0); end(0, 1); end(1, 0)")
            .does("hire(3, 0, NONE);").due("end(8, 3)", 3).refused("end(8, 3)", -1)
            .does("hire(3, 1, NONE); put(0, 3, 1);").due("end(9, 3)", 103).refused("end(9, 3)", -1);
    }

    private static void promise17WhereItWasHired() {
        new Run("stand(2); stand(2); length(0, 1, 5); put(1, 0, 0);" + Towns.charge(0, 10) + "hire(0, 0, NONE);")
            .due("end(0, 0)", 0).due("wheel(0, 1)", 10).due("wheel(0, 4)", 0);
    }

    private static void promise17OneDockLeft() {
        Run.ofStands(2, 3).does("put(0, 0, 0); put(0, 1, 0); block(1, 2, true); hire(0, 0, NONE);")
            .due("end(0, 1)", 1).dues("dock(1, #)", 1, 0, -2).due("tell(1, 4)", 0).due("tell(1, 7)", 0);
    }

    private static void promise17NoDockLeft() {
        Run.ofStands(2, 3).does("put(0, 0, 0); put(0, 1, 0); put(0, 1, 1); block(1, 2, true); hire(0, 0, NONE);")
            .due("end(0, 1)", 101).dues("dock(1, #)", 1, 2, -2).due("tell(1, 4)", 1).due("tell(1, 7)", 1);
    }

    private static void promise17RoomForOneOfTwo() {
        String town = "stand(3); stand(3); put(0, 0, 0); put(3, 0, 1); put(0, 1, 1); hire(0, 0, 1);";
        new Run(town).due("end(0, 1)", 1).dues("dock(1, #)", 0, 2, 1).due("tell(1, 4)", 0);
        new Run(town).does("block(1, 0, true);").due("end(0, 1)", 101).dues("dock(1, #)", -2, 2, -1)
            .due("tell(1, 4)", 1).due("tell(1, 7)", 2).dues("wheel(1, #)", 3, 0, 3, 1, -1, 0, 0, -1);
    }

    private static void promise17RoomForCargo() {
        String town = "stand(3); stand(5); length(0, 1, 10); put(2, 0, 0); put(3, 0, 2); hire(0, 0, NONE);";
        new Run(town).does("block(1, 1, true); block(1, 3, true);").due("end(0, 1)", 101)
            .due("tell(1, 1)", 3).due("tell(1, 4)", 1);
        new Run(town).does("block(1, 1, true); block(1, 2, true);").due("end(0, 1)", 1).due("wheel(0, 4)", 3)
            .dues("dock(1, #)", -1, -2, -2, 0, 0);
        // Room for the cargo is looked for first; what is left is the child's.
        String both = "end(0, 0); hire(0, 0, 2);";
        new Run(town).does(both).does("block(1, 0, true); block(1, 3, true);").due("end(0, 1)", 1)
            .dues("dock(1, #)", -2, 0, 0, -2, 1);
        new Run(town).does(both).does("block(1, 0, true); block(1, 1, true); block(1, 2, true);").due("end(0, 1)", 101)
            .dues("dock(1, #)", -2, -2, -2, -1, -1).due("tell(1, 4)", 1);
        new Run(town).does(both).does("block(1, 0, true); block(1, 1, true);").due("end(0, 1)", 1)
            .dues("dock(1, #)", -2, -2, 0, 0, 1);
    }

    /** Motor 0 is hired from stand 0; stand 1 and the eight of its row are full; every length told is 10. */
    private static Run fullRow() {
        Run x = Run.ofStands(10, 2).does("put(1, 0, 0); length(0, 1, 10); length(1, 2, 10);");
        for (int s = 2; s <= 9; s++) {
            x.does("next(1, " + s + "); length(" + (s - 1) + ", " + s + ", 1" + s + ");");
        }
        for (int s = 1; s <= 9; s++) {
            x.does("block(" + s + ", 0, true); block(" + s + ", 1, true);");
        }
        return x.does("hire(0, 0, NONE);");
    }

    private static void promise17RoomAtTheLastOfEight() {
        fullRow().due("tell(1, 6)", 8).does("block(9, 1, false);").due("end(0, 1)", 9)
            .due("wheel(0, 1)", 1000 - 2 * (10 + 12 + 13 + 14 + 15 + 16 + 17 + 18 + 19)).due("wheel(0, 4)", 1)
            .dues("tell(#, 4)", 0, 1, 1, 1, 1, 1, 1, 1, 1, 0).dues("tell(#, 7)", 0, 0, 0, 0, 0, 0, 0, 0, 0, 0);
    }

    private static void promise17RoomAtNoneOfEight() {
        fullRow().due("end(0, 1)", 109)
            .due("wheel(0, 1)", 1000 - 2 * (10 + 12 + 13 + 14 + 15 + 16 + 17 + 18 + 19)).due("wheel(0, 4)", -1)
            .dues("tell(#, 4)", 0, 1, 1, 1, 1, 1, 1, 1, 1, 1).dues("tell(#, 7)", 0, 0, 0, 0, 0, 0, 0, 0, 0, 1);
    }

    private static void promise17RowIsMissing() {
        fullRow().does("tear(1, 0);").due("end(0, 1)", 101).due("wheel(0, 1)", 980)
            .dues("tell(#, 4)", 0, 1, 0, 0, 0, 0, 0, 0, 0, 0);
        fullRow().does("tear(1, 0); next(1, 2);").due("end(0, 1)", 102)
            .dues("tell(#, 4)", 0, 1, 1, 0, 0, 0, 0, 0, 0, 0);
    }

    private static void promise17RowOfTheFirstAlone() {
        fullRow().does("tear(1, 0); next(1, 3); next(3, 0); next(3, 1); next(2, 0);").due("end(0, 1)", 103)
            .dues("tell(#, 4)", 0, 1, 0, 1, 0, 0, 0, 0, 0, 0);
        fullRow().does("tear(1, 0); next(1, 3); next(1, 0);")
            .due("end(0, 1)", 0).dues("tell(#, 4)", 0, 1, 0, 1, 0, 0, 0, 0, 0, 0);
    }

    private static void promise17StreetOfTheFirstAndLastStand() {
        Run x = Run.ofStands(12, 2).does("put(0, 0, 0); put(0, 11, 1);");
        x.does("hire(0, 0, NONE);").due("end(0, 11)", 11).does("hire(11, 0, NONE); block(11, 0, true);")
            .due("end(0, 11)", 111).due("tell(11, 7)", 1)
            .does("block(0, 0, true); block(0, 1, true); hire(11, 1, NONE);").due("end(1, 0)", 100)
            .due("tell(0, 7)", 1);
    }

    private static void promise17ChargeDownToZero() {
        for (int[] told : new int[][] {{1, 499, 2}, {1, 500, 0}, {1, 501, 0}, {1, 999, 0}, {2, 332, 4}, {2, 333, 1},
            {2, 334, 0}, {2, 999, 0}, {0, 999, 0}}) {
            new Run("stand(3); stand(3); stand(2); length(0, 2, 1); put(" + told[0] + ", 0, 0); length(0, 1, " + told[1]
                    + "); hire(0, 0, NONE);")
                .due("wheel(0, 1)", told[0] == 0 ? 0 : 1000).due("end(0, 1)", 1).due("wheel(0, 1)", told[2]);
        }
    }

    private static void promise17ChargeOfAllTheWay() {
        String town = "stand(2); stand(2); stand(2); put(1, 0, 0); length(0, 1, 20); length(1, 2, 30); next(1, 2);"
            + "block(1, 0, true); block(1, 1, true);";
        new Run(town).does(Towns.charge(0, 101)).does("hire(0, 0, NONE);").due("end(0, 1)", 2).due("wheel(0, 1)", 1);
        new Run(town).does(Towns.charge(0, 100)).does("hire(0, 0, NONE);").due("end(0, 1)", 2).due("wheel(0, 1)", 0);
        new Run(town).does(Towns.charge(0, 99)).does("hire(0, 0, NONE);").due("end(0, 1)", 2).due("wheel(0, 1)", 0);
        new Run(town).does(Towns.charge(0, 40)).does("hire(0, 0, NONE);").due("end(0, 1)", 2).due("wheel(0, 1)", 0);
    }

    private static void promise18BehindTheLastHour() {
        Run x = new Run("stand(2); put(1, 0, 0); charge(0, 0);");
        for (int hour = 1; hour <= 23; hour++) {
            x.due("hour()", hour).due("count(8)", hour);
        }
        x.does("charge(0, 0);").due("hour()", 0).due("count(8)", 0).due("wheel(0, 1)", 100)
            .due("hour()", 1).due("wheel(0, 1)", 200);
    }

    private static void promise18ChargeUpToTheMost() {
        int[][] motor = {{0, 100}, {899, 999}, {900, 1000}, {901, 1000}, {999, 1000}, {1000, 1000}};
        int[][] cargo = {{0, 50}, {949, 999}, {950, 1000}, {951, 1000}, {999, 1000}, {1000, 1000}};
        for (int i = 0; i < motor.length; i++) {
            new Run("stand(3); put(1, 0, 0); put(2, 0, 1);")
                .does(Towns.charge(0, motor[i][0]) + Towns.charge(1, cargo[i][0]))
                .due("hour()", 1).due("wheel(0, 1)", motor[i][1]).due("wheel(1, 1)", cargo[i][1]);
        }
        new Run("stand(2); put(0, 0, 0); put(3, 0, 1); hour();").due("wheel(0, 1)", 0).due("wheel(1, 1)", 0);
    }

    private static void promise18InDocksAlone() {
        Towns.rich().does(Towns.charge(2, 500) + Towns.charge(3, 500) + "hour();").due("wheel(2, 1)", 500)
            .due("wheel(6, 1)", 500).due("wheel(3, 1)", 550).does("hire(0, 3, NONE); hour();").due("wheel(3, 1)", 550);
    }
}
