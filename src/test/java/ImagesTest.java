/** Promises 32 to 34: images and counts. */
public final class ImagesTest {
    private static final int LEAST = Integer.MIN_VALUE;
    private static final int MOST = Integer.MAX_VALUE;

    public static void main(String[] args) {
        promise32Image();
        promise33AgainBringsAllBack();
        promise33AgainOfHires();
        promise33AgainOfNothing();
        promise33RoundAndImagesStay();
        promise33NewStandsAfterAgain();
        promise33ImagesOfOtherTowns();
        promise34Count();
        Due.close("ImagesTest");
    }

    private static void promise32Image() {
        WheelStands x = new WheelStands();
        for (int k : new int[] {-1, 4, LEAST, MOST}) {
            Due.no("image(" + k + ")", x.image(k));
            Due.no("again(" + k + ")", x.again(k));
        }
        for (int k = 0; k < 4; k++) {
            Due.no("not yet: again(" + k + ")", x.again(k));
            Due.yes("image(" + k + ")", x.image(k));
            x.stand(2);
        }
        for (int k = 3; k >= 0; k--) {
            Due.yes("again(" + k + ")", x.again(k));
            Due.is("stands of image " + k, x.count(0), k);
        }
        x.again(3);
        Due.yes("image(0) once more", x.image(0));
        x.stand(3);
        x.again(0);
        Due.is("the new image counts", x.count(0), 3);
    }

    private static WheelStands rich() {
        WheelStands x = new WheelStands();
        x.stand(6);
        x.stand(2);
        x.stand(3);
        x.length(0, 1, 50);
        x.next(1, 2);
        x.demand(0, 4, 1, 3);
        x.want(1, 1);
        x.put(1, 0, 0);
        x.put(3, 0, 1);
        x.put(2, 0, 2);
        x.put(0, 0, 4);
        x.block(0, 5, true);
        x.cart(3, 0);
        x.pick(0, 4);
        x.fault(1);
        x.test(1);
        x.hour();
        return x;
    }

    private static void checkRich(String call, WheelStands x) {
        Due.tells(call, x, 0, 6, 1, 3, 2, 0, -1, -1, 0);
        Due.tells(call, x, 1, 2, 2, 0, 0, 0, 1, 1, 0);
        Due.tells(call, x, 2, 3, 3, 0, 0, 0, -1, -1, 0);
        Due.docks(call, x, 0, 0, 1, 2, 2, -1, -2);
        Due.docks(call, x, 1, -1, -1);
        Due.wheel(call, x, 0, 1, 1000, 0, 0, 0, 0, 0, -1);
        Due.wheel(call, x, 1, 3, 0, 0, 0, 1, 0, 1, -1);
        Due.wheel(call, x, 2, 2, 1000, 0, 0, 2, 0, 0, -1);
        Due.wheel(call, x, 3, 0, 0, 1, -1, 0, 0, 0, -1);
        Due.loads(call, x, 0, 3, 0, 1, 0, 3, -1);
        Due.is(call + ": runs(0, 0, 0)", x.runs(0, 0, 0), 2);
        Due.is(call + ": count(0)", x.count(0), 3);
        Due.is(call + ": count(1)", x.count(1), 4);
        Due.is(call + ": count(2)", x.count(2), 1);
        Due.is(call + ": count(8)", x.count(8), 1);
    }

    private static void promise33AgainBringsAllBack() {
        WheelStands x = rich();
        checkRich("as it is", x);
        Due.yes("image(2)", x.image(2));
        x.mend(1);
        x.length(0, 1, 60);
        x.length(0, 2, 60);
        x.next(1, 0);
        x.next(0, 1);
        x.tear(0, 1);
        x.demand(1, 1, 1, 1);
        x.want(1, 2);
        x.want(0, 0);
        x.block(0, 5, false);
        x.block(1, 0, true);
        x.hire(0, 0, 1);
        x.end(0, 1);
        x.hire(0, 2, -1);
        x.drive(0, 2);
        x.drop(0);
        x.fault(2);
        x.stand(4);
        x.put(1, 3, 0);
        x.cart(1, 3);
        x.hour();
        Due.yes("again(2)", x.again(2));
        checkRich("as it was", x);
        Due.is("the length", x.drive(0, 1), 50);
        Due.is("the other length", x.drive(0, 2), 1049);
        Due.no("the demand of 1", x.tear(1, 1));
        Due.yes("again(2) again", x.again(2));
        checkRich("as it was, again", x);
        x.mend(1);
        x.length(0, 1, 50);
        x.hire(0, 0, 1);
        x.block(1, 0, true);
        x.put(0, 1, 1);
        Due.is("the row of others", x.end(0, 1), 2);
    }

    private static void promise33AgainOfHires() {
        WheelStands x = rich();
        x.mend(1);
        x.length(0, 1, 50);
        x.hire(0, 0, 1);
        x.image(0);
        x.end(0, 1);
        x.again(0);
        Due.wheel("hired again", x, 0, 1, 1000, 2, 0, -1, 0, 0, 1);
        Due.wheel("the child too", x, 1, 3, 0, 2, 0, -1, 0, 0, 0);
        Due.is("a doubt", x.wheel(2, 5), 1);
        Due.is("it ends once more", x.end(0, 1), 1);
        x.put(0, 0, 0);
        x.hire(0, 0, -1);
        x.end(4, 1);
        x.image(1);
        Due.is("failed", x.tell(1, 4), 1);
        x.again(0);
        Due.is("not failed yet", x.tell(1, 4), 0);
        x.again(1);
        Due.is("failed again", x.tell(1, 4), 1);
    }

    private static void promise33AgainOfNothing() {
        WheelStands x = new WheelStands();
        x.image(0);
        x.stand(3);
        x.put(0, 0, 0);
        x.cart(2, 0);
        x.hour();
        Due.yes("again(0)", x.again(0));
        for (int what = 0; what <= 8; what++) {
            Due.is("count(" + what + ")", x.count(what), 0);
        }
        Due.no("again(1)", x.again(1));
        Due.is("a stand anew", x.stand(2), 0);
        Due.docks("its docks", x, 0, -1, -1);
    }

    private static void promise33RoundAndImagesStay() {
        WheelStands x = rich();
        x.image(0);
        x.drive(0, 0);
        x.drop(0);
        x.want(0, 2);
        x.plan(0);
        Due.round("at hand", x, 0, 1);
        x.image(1);
        x.again(0);
        Due.round("it stays", x, 0, 1);
        Due.is("as image 0 has it", x.tell(0, 5), -1);
        Due.yes("image 1 is there", x.again(1));
        Due.is("as image 1 has it", x.tell(0, 5), 2);
        Due.yes("image 0 is there", x.again(0));
        Due.is("as image 0 still has it", x.tell(0, 5), -1);
        x.want(0, 5);
        x.again(0);
        Due.is("an image does not follow", x.tell(0, 5), -1);
    }

    private static void promise33NewStandsAfterAgain() {
        WheelStands x = new WheelStands();
        x.stand(2);
        x.image(0);
        x.stand(3);
        x.length(0, 1, 5);
        x.want(1, 3);
        x.next(1, 0);
        x.demand(1, 2, 3, 4);
        x.block(1, 2, true);
        x.put(1, 1, 0);
        x.cart(3, 1);
        x.drive(0, 0);
        x.drive(0, 1);
        x.pick(0, 0);
        x.again(0);
        Due.is("a stand", x.stand(4), 1);
        Due.tells("a new one", x, 1, 4, 4, 0, 0, 0, -1, -1, 0);
        Due.docks("all are free", x, 1, -1, -1, -1, -1);
        Due.no("no demand", x.tear(1, 1));
        Due.is("a cart", x.cart(2, 1), 0);
        Due.loads("a new one", x, 0, 2, 1, 0, 0, -1);
        Due.is("999 at first", x.drive(0, 0), 999);
        Due.is("a wheel", x.put(3, 1, 0), 0);
        Due.wheel("a new one", x, 0, 3, 0, 0, 1, 0, 0, 0, -1);
    }

    /** Two images of towns that have nothing in common but the numbers. */
    private static void promise33ImagesOfOtherTowns() {
        WheelStands x = new WheelStands();
        x.image(0);
        x.stand(5);
        x.stand(3);
        x.stand(2);
        x.next(0, 2);
        x.next(0, 1);
        x.put(1, 0, 0);
        x.put(2, 0, 1);
        x.put(0, 0, 3);
        x.put(3, 1, 1);
        x.fault(0);
        x.hire(0, 3, -1);
        x.cart(2, 0);
        x.cart(4, 1);
        x.pick(1, 1);
        x.image(1);
        x.again(0);
        x.stand(2);
        x.stand(9);
        x.stand(4);
        x.next(0, 1);
        x.put(2, 1, 7);
        x.put(0, 2, 0);
        x.put(3, 1, 3);
        x.cart(7, 1);
        x.pick(0, 3);
        x.image(2);
        x.again(1);
        Due.is("docks of the first", x.tell(0, 0), 5);
        Due.is("docks of the second", x.tell(1, 0), 3);
        Due.is("a row of two", x.tell(0, 6), 2);
        Due.wheel("motor, broken, in doubt", x, 0, 1, 1000, 0, 0, 0, 1, 0, -1);
        Due.is("it is broken", x.hire(0, 0, -1), -3);
        Due.wheel("cargo", x, 1, 2, 1000, 0, 0, 1, 1, 0, -1);
        Due.wheel("hired", x, 2, 0, 0, 2, 0, -1, 0, 0, -1);
        Due.wheel("child", x, 3, 3, 0, 1, -1, 1, 0, 0, -1);
        Due.loads("load of the first cart", x, 0, 2, 0, 0, 0, -1);
        Due.loads("load of the second cart", x, 1, 4, 1, 1, 0, 3, -1);
        x.put(0, 0, 3);
        x.put(0, 0, 4);
        Due.is("the row: 2 comes first", x.end(2, 0), 2);
        x.mend(0);
        Due.is("another first one on the cart", x.pick(0, 0), 0);
        x.again(2);
        Due.is("docks of the other first", x.tell(0, 0), 2);
        Due.is("docks of the other second", x.tell(1, 0), 9);
        Due.is("a row of one", x.tell(0, 6), 1);
        Due.wheel("cargo, sound", x, 0, 2, 1000, 0, 1, 7, 0, 0, -1);
        Due.wheel("plain", x, 1, 0, 0, 0, 2, 0, 0, 0, -1);
        Due.is("it is sound", x.test(1), 0);
        Due.loads("load of the other cart", x, 0, 7, 1, 1, 0, 2, -1);
        Due.is("one cart", x.load(1, 0), -3);
    }

    private static void promise34Count() {
        WheelStands x = new WheelStands();
        x.stand(6);
        x.stand(2);
        for (int d = 0; d < 6; d++) {
            x.put(0, 0, d);
        }
        x.put(0, 1, 0);
        x.block(1, 1, true);
        x.cart(2, 0);
        x.cart(2, 0);
        x.cart(2, 1);
        x.pick(0, 0);
        x.pick(1, 1);
        x.hire(0, 2, -1);
        x.end(2, 1);
        x.hire(0, 3, -1);
        x.fault(4);
        x.fault(5);
        x.test(5);
        x.fault(0);
        x.test(0);
        x.hour();
        x.hour();
        int[] due = {2, 7, 3, 3, 2, 1, 1, 2, 2};
        for (int what = 0; what < due.length; what++) {
            Due.is("count(" + what + ")", x.count(what), due[what]);
        }
        for (int what : new int[] {-1, 9, LEAST, MOST}) {
            Due.is("count(" + what + ")", x.count(what), -1);
        }
    }
}
