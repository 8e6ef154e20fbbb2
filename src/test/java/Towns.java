/** Towns on which refused calls are tried: much is there that a wrong change would be seen in. */
final class Towns {
    /**
     * Stand 0: child 10, two free docks, cargo 3, a blocked dock; stand 1: plain 4 (known to be broken),
     * child 5, a free dock; stand 2: free, plain 7 (broken), blocked, free; stand 3: plain 8 and 9, motor 6
     * on its street. Wheel 0 with child 1 is hired from stand 0. Cart 0 (load 3) is at stand 0 with motor 2,
     * cart 1 (load 8) is empty, at stand 1. The round at hand is 2, 1; images 1 and 3 are there.
     */
    static final String RICH =
        "stand(6); stand(3); stand(4); stand(2);"
        + "length(0, 1, 50); length(0, 2, 70); length(1, 2, 30); length(2, 3, 10);"
        + "next(1, 2); next(1, 3); next(2, 0);"
        + "demand(0, 0, 2, 1); demand(0, 23, 0, 5); demand(1, 7, 3, 9);"
        + "put(0, 0, 0); put(3, 0, 1); put(1, 0, 2); put(2, 0, 3);"
        + "put(0, 1, 0); put(3, 1, 1); put(1, 2, 0); put(0, 2, 1); put(0, 3, 0); put(0, 3, 1);"
        + "image(1); block(0, 5, true); cart(3, 0); cart(8, 2);"
        + "want(1, 3); want(2, 1); plan(0);"
        + "hire(2, 0, NONE); end(6, 3); hire(0, 0, 1); fault(4); test(4); fault(7);"
        + "pick(0, 2); put(3, 0, 0); hour(); image(3);"
        + "want(3, 1); block(2, 2, true); drive(1, 1); charge(6, 1056964608);";

    private Towns() {
    }

    static Run rich() {
        return new Run(RICH);
    }

    /** Stand 0 with n wheels too many, and the next n stands, which lack one each; an empty cart of load 8. */
    static Run star(int n) {
        Run x = Run.ofStands(9, 12);
        for (int s = 1; s <= n; s++) {
            x.does("put(0, 0, " + (s - 1) + "); want(" + s + ", 1); length(" + (s - 1) + ", " + s + ", 10);");
        }
        return x.does("want(0, 0); cart(8, 0);");
    }

    /** The bits of a float that is so many thousandths, and half of one, so that cutting leaves them. */
    static int bits(int thousandths) {
        return thousandths == 1000 ? Float.floatToRawIntBits(1f)
            : Float.floatToRawIntBits((thousandths + 0.5f) / 1000f);
    }

    static String charge(int wheel, int thousandths) {
        return "charge(" + wheel + ", " + bits(thousandths) + ");";
    }
}
