/** The edges of promises 32 to 34, one by one; a method's name begins with the number of its promise. */
public final class ImagesEdgesTest {
    /** Each is granted in the rich town, and again() must take it back; the round at hand and images are not in it. */
    private static final String[] CHANGES = {
        "stand(2)", "length(0, 1, 51)", "length(3, 2, 998)", "next(0, 1)", "next(1, 0)", "tear(1, 0)",
        "tear(1, 0); next(1, 3); next(1, 2)", "tear(1, 1)",
        "tear(0, 1)", "tear(2, 0)", "block(0, 1, true)", "block(0, 5, false)", "put(0, 0, 1)", "put(2, 0, 1)",
        "charge(3, 1056964608)", "charge(2, 0)", "charge(6, 1065353216)", "fault(0)", "fault(1)", "fault(2)",
        "fault(6)", "fault(10)", "test(7)", "test(3)", "test(2)", "mend(4)", "mend(7)", "hire(3, 0, NONE)",
        "hire(0, 3, 0)", "end(0, 0)", "end(0, 1)", "end(0, 3)", "hour()", "cart(1, 3)", "drive(0, 3)", "drive(1, 0)",
        "pick(0, 0)", "pick(0, 3)", "pick(1, 0)", "drop(0)", "demand(0, 0, 2, 2)", "demand(0, 1, 1, 0)",
        "demand(2, 5, 0, 0)", "demand(3, 23, 0, 1)", "want(0, 0)", "want(1, NONE)", "want(3, 12)",
        "drive(1, 3); fetch(1, 6)", "want(1, 3); want(2, NONE); want(3, 1); carry(1)",
        "stand(12); length(4, 0, 3); put(0, 4, 0); put(1, 4, 1); cart(4, 4); pick(2, 0); hire(4, 1, NONE); want(4, 3);"
            + "hour(); next(4, 1); demand(4, 2, 9, 9)"};

    public static void main(String[] args) {
        promise32NoSuchImage();
        promise32TheFirstAndTheLast();
        promise32TakenOnceMore();
        promise33NoSuchImage();
        promise33NotTaken();
        promise33TakesBackEachChange();
        promise33BringsBackEachChange();
        promise33TheRoundAtHandStays();
        promise33ImagesStay();
        promise33AnEmptyImage();
        promise33AnImageOfAnotherTown();
        promise33AFullImage();
        promise33TheHourBehindTheLast();
        promise34AnotherWhat();
        promise34OfEachPlace();
        promise34BrokenAndKnown();
        Due.close("ImagesEdgesTest");
    }

    private static void promise32NoSuchImage() {
        Towns.rich().refusedAll(0, "image(-1); image(4); image(5); image(LEAST); image(MOST)");
        new Run("").refusedAll(0, "image(-1); image(4)");
    }

    private static void promise32TheFirstAndTheLast() {
        Run.ofStands(1, 2).due("image(0)", 1).does("stand(3);").due("image(3)", 1).does("stand(4);")
            .due("again(0)", 1).due("count(0)", 1).due("again(3)", 1).due("count(0)", 2)
            .refusedAll(0, "again(1); again(2)");
    }

    private static void promise32TakenOnceMore() {
        Run.ofStands(1, 2).due("image(2)", 1).does("stand(3); put(0, 0, 0);").due("image(2)", 1)
            .does("stand(4); hire(0, 0, NONE);").due("again(2)", 1).due("count(0)", 2).due("wheel(0, 2)", 0)
            .refusedAll(0, "again(0); again(1); again(3)");
    }

    private static void promise33NoSuchImage() {
        Towns.rich().refusedAll(0, "again(-1); again(4); again(5); again(LEAST); again(MOST)");
    }

    private static void promise33NotTaken() {
        Towns.rich().refusedAll(0, "again(0); again(2)").due("again(1)", 1).refusedAll(0, "again(0); again(2)")
            .due("again(3)", 1).due("image(0)", 1).refused("again(2)", 0).due("again(0)", 1);
    }

    private static void promise33TakesBackEachChange() {
        for (String change : CHANGES) {
            Towns.rich().does("image(0);").does(change).due("again(0)", 1).sameAs(Towns.rich());
        }
    }

    private static void promise33BringsBackEachChange() {
        for (String change : CHANGES) {
            Towns.rich().does("image(2);").does(change).does("image(0); again(2); again(0);")
                .sameAs(Towns.rich().does(change));
        }
    }

    private static void promise33TheRoundAtHandStays() {
        Towns.rich().dues("round(#)", 2, 1, -1).due("again(1)", 1).dues("round(#)", 2, 1, -1)
            .due("again(3)", 1).dues("round(#)", 2, 1, -1);
        Towns.star(2).does("image(0); plan(0); again(0);").dues("round(#)", 0, 1, 2, -1)
            .does("carry(0); again(0);").due("tell(0, 3)", 2).dues("round(#)", 0, 1, 2, -1)
            .does("want(0, NONE); want(1, NONE); want(2, NONE); plan(0); again(0);").dues("round(#)", -1, -1, -1);
        new Run("image(0); stand(3); stand(3); put(0, 0, 0); want(0, 0); want(1, 1); cart(1, 0); plan(0);")
            .due("again(0)", 1).due("count(0)", 0).dues("round(#)", 0, 1, -1);
    }

    private static void promise33ImagesStay() {
        Run x = Run.ofStands(1, 2).does("image(0); stand(2); image(1); stand(2); image(2); stand(2); image(3);");
        for (int k : new int[] {0, 3, 1, 2, 0, 0, 3}) {
            x.due("again(" + k + ")", 1).due("count(0)", k + 1).does("stand(2);");
        }
    }

    private static void promise33AnEmptyImage() {
        new Run("image(0);").does(Towns.RICH).due("again(0)", 1).sameAs(new Run(""))
            .does("image(0); image(1); image(2); image(3);").does(Towns.RICH).sameAs(Towns.rich());
    }

    /** A town that has nothing in common with the rich one but the numbers. */
    private static void promise33AnImageOfAnotherTown() {
        String other = "stand(2); stand(9); stand(4); stand(12); length(0, 1, 3); length(2, 3, 4); next(0, 1);"
            + "next(1, 0); next(2, 3); demand(1, 0, 9, 9); demand(0, 3, 4, 4); want(0, 2); want(1, NONE); put(2, 0, 0);"
            + "put(0, 1, 8); put(3, 1, 3); put(1, 3, 11); put(3, 2, 0); cart(7, 1); cart(2, 3); pick(0, 8);"
            + "pick(1, 11); hire(0, 1, NONE); block(2, 2, true); block(0, 0, true); fault(2); test(2); hour(); hour();";
        new Run("image(0);").does(Towns.RICH).does("image(2); again(0);").does(other).does("image(0); again(2);")
            .sameAs(Towns.rich()).due("again(0)", 1).sameAs(new Run(other))
            .due("again(2)", 1).sameAs(Towns.rich());
    }

    private static void promise33AFullImage() {
        StringBuilder town = new StringBuilder("stand(12);".repeat(12));
        for (int w = 0; w < 60; w++) {
            town.append("put(" + (w % 2) + ", " + w / 12 + ", " + w % 12 + ");");
        }
        town.append("cart(8, 0); cart(8, 1); cart(8, 4);" + "next(11, 0);".repeat(8));
        for (int d = 4; d < 12; d++) {
            town.append("pick(2, " + d + ");");
        }
        Run x = new Run(town + "image(3); image(0); hour(); drop(2); drive(2, 11); drop(2); tear(11, 0); again(3);");
        x.sameAs(new Run(town.toString())).refusedAll(-1, "stand(2); put(0, 11, 0); cart(1, 0)");
    }

    private static void promise33TheHourBehindTheLast() {
        Run.ofStands(1, 2).does("hour();".repeat(23)).does("image(1);").due("hour()", 0).due("again(1)", 1)
            .due("count(8)", 23).due("hour()", 0);
    }

    private static void promise34AnotherWhat() {
        Towns.rich().refusedAll(-1, "count(-1); count(9); count(10); count(LEAST); count(MOST)")
            .dues("count(#)", 4, 11, 2, 7, 1, 2, 1, 1, 1, -1);
    }

    private static void promise34OfEachPlace() {
        Towns.rich().does("pick(1, 0);").dues("count(#)", 4, 11, 2, 6, 2, 2, 1, 1, 1)
            .does("hire(3, 0, NONE);").dues("count(#)", 4, 11, 2, 5, 2, 3, 1, 1, 1)
            .due("end(0, 3)", 103).dues("count(#)", 4, 11, 2, 5, 2, 1, 3, 1, 1)
            .does("drive(0, 3); fetch(0, 6);").dues("count(#)", 4, 11, 2, 5, 3, 1, 2, 1, 1)
            .does("drop(0);").dues("count(#)", 4, 11, 2, 6, 2, 1, 2, 1, 1);
    }

    private static void promise34BrokenAndKnown() {
        Towns.rich().due("count(7)", 1).does("fault(8);").due("count(7)", 1).does("test(8);").due("count(7)", 2)
            .does("mend(4);").due("count(7)", 1).does("pick(1, 0); drive(1, 3); pick(1, 0);").due("count(7)", 1)
            .does("mend(8);").due("count(7)", 0);
    }
}
