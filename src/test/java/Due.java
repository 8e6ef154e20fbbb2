/** Notes every call whose answer is not the one that is due. */
final class Due {
    private static int asked = 0;
    private static int wrong = 0;

    private Due() {
    }

    static void is(String call, long got, long due) {
        asked++;
        if (got != due) {
            wrong++;
            System.out.println(call + " answered " + got + ", due is " + due);
        }
    }

    static void yes(String call, boolean got) {
        is(call, got ? 1 : 0, 1);
    }

    static void no(String call, boolean got) {
        is(call, got ? 1 : 0, 0);
    }

    /** That no difference was found. */
    static void same(String call, String difference) {
        asked++;
        if (difference != null) {
            wrong++;
            System.out.println(call + ": " + difference);
        }
    }

    /** A new object with stands of so many docks each. */
    static WheelStands stands(int... docks) {
        WheelStands x = new WheelStands();
        for (int n : docks) {
            x.stand(n);
        }
        return x;
    }

    /** All answers of tell() for a stand, in the order of what. */
    static void tells(String call, WheelStands x, int stand, int... due) {
        for (int what = 0; what < due.length; what++) {
            is(call + ": tell(" + stand + ", " + what + ")", x.tell(stand, what), due[what]);
        }
    }

    /** All answers of wheel() for a wheel, in the order of what. */
    static void wheel(String call, WheelStands x, int wheel, int... due) {
        for (int what = 0; what < due.length; what++) {
            is(call + ": wheel(" + wheel + ", " + what + ")", x.wheel(wheel, what), due[what]);
        }
    }

    /** What is in the docks of a stand, from dock 0 on, and that there are no more. */
    static void docks(String call, WheelStands x, int stand, int... due) {
        for (int d = 0; d < due.length; d++) {
            is(call + ": dock(" + stand + ", " + d + ")", x.dock(stand, d), due[d]);
        }
        is(call + ": dock(" + stand + ", " + due.length + ")", x.dock(stand, due.length), -3);
    }

    /** What load() answers for a cart, in the order of what. */
    static void loads(String call, WheelStands x, int cart, int... due) {
        for (int what = 0; what < due.length; what++) {
            is(call + ": load(" + cart + ", " + what + ")", x.load(cart, what), due[what]);
        }
    }

    /** The stands of the round at hand, and that there are no more. */
    static void round(String call, WheelStands x, int... due) {
        for (int k = 0; k < due.length; k++) {
            is(call + ": round(" + k + ")", x.round(k), due[k]);
        }
        is(call + ": round(" + due.length + ")", x.round(due.length), -1);
        is(call + ": round(-1)", x.round(-1), -1);
    }

    static void close(String name) {
        System.out.println(name + ": " + asked + " answers, " + wrong + " not as due");
        if (wrong > 0 || asked == 0) {
            System.exit(1);
        }
    }
}
