/** Promises 16 to 18: hires and hours. */
public final class HiresTest {
    private static final int LEAST = Integer.MIN_VALUE;
    private static final int MOST = Integer.MAX_VALUE;

    public static void main(String[] args) {
        promise16Hire();
        promise16HireWithChild();
        promise16Refusals();
        promise16RefusalsInTheirOrder();
        promise16ChargeForTheNearest();
        promise16Doubts();
        promise17EndRefused();
        promise17EndInRoom();
        promise17EndGoesOn();
        promise17EndOnTheStreet();
        promise17EndWithChild();
        promise17EndTakesNoHalf();
        promise17EndOfCargo();
        promise17ChargeFalls();
        promise18Hour();
        promise18HourOfTheFirstAndLast();
        Due.close("HiresTest");
    }

    private static int half() {
        return Float.floatToRawIntBits(0.5f);
    }

    private static void promise16Hire() {
        WheelStands x = Due.stands(5, 2);
        x.put(0, 0, 0);
        x.put(2, 0, 1);
        x.put(2, 0, 3);
        x.length(0, 1, 10);
        Due.is("plain", x.hire(0, 0, -1), 0);
        Due.is("cargo by its first dock", x.hire(0, 1, -1), 1);
        Due.is("cargo by its second dock", x.hire(0, 4, -1), 2);
        Due.docks("all are gone", x, 0, -1, -1, -1, -1, -1);
        Due.is("three are hired", x.count(5), 3);
        Due.wheel("hired", x, 2, 2, 1000, 2, 0, -1, 0, 0, -1);
        Due.is("twice", x.hire(0, 0, -1), -1);
    }

    private static void promise16HireWithChild() {
        WheelStands x = Due.stands(5, 2);
        x.put(0, 0, 0);
        x.put(3, 0, 1);
        x.put(3, 0, 2);
        x.put(3, 1, 0);
        Due.is("child in dock 2", x.hire(0, 0, 2), 0);
        Due.docks("both are gone", x, 0, -1, 1, -1, -1, -1);
        Due.is("the child of it", x.wheel(0, 7), 2);
        Due.is("the one it is with", x.wheel(2, 7), 0);
        Due.is("the child's stand", x.wheel(2, 3), 0);
        Due.is("the child's dock", x.wheel(2, 4), -1);
        Due.is("the child that stays", x.wheel(1, 5), 1);
        Due.is("a child elsewhere", x.wheel(3, 5), 0);
    }

    private static void promise16Refusals() {
        WheelStands x = Due.stands(4, 4);
        x.put(0, 0, 0);
        x.put(3, 0, 1);
        x.put(1, 0, 2);
        x.put(3, 1, 3);
        x.block(1, 0, true);
        Due.is("no wheel", x.hire(0, 3, -1), -1);
        Due.is("a blocked dock", x.hire(1, 0, -1), -1);
        Due.is("hire(2, 0, -1)", x.hire(2, 0, -1), -1);
        Due.is("hire(-1, 0, -1)", x.hire(-1, 0, -1), -1);
        Due.is("hire(0, 4, -1)", x.hire(0, 4, -1), -1);
        Due.is("hire(0, -1, -1)", x.hire(0, -1, -1), -1);
        Due.is("hire(LEAST, MOST, LEAST)", x.hire(LEAST, MOST, LEAST), -1);
        Due.is("a child by itself", x.hire(0, 1, -1), -2);
        Due.is("itself as its child", x.hire(0, 0, 0), -5);
        Due.is("no wheel as its child", x.hire(0, 0, 3), -5);
        Due.is("a child of another stand's dock", x.hire(1, 3, 1), -2);
        Due.is("no dock of the child", x.hire(0, 0, 4), -5);
        Due.is("child -2", x.hire(0, 0, -2), -5);
        Due.is("child MOST", x.hire(0, 0, MOST), -5);
        Due.is("a motor as its child", x.hire(0, 0, 2), -5);
        x.fault(1);
        Due.is("a broken child", x.hire(0, 0, 1), -5);
        Due.is("a broken child by itself", x.hire(0, 1, -1), -2);
        x.fault(0);
        Due.is("a broken one", x.hire(0, 0, -1), -3);
        x.test(0);
        Due.is("a broken one that is known", x.hire(0, 0, -1), -3);
        Due.is("its charge", x.hire(0, 2, -1), -4);
        for (int i = 0; i < 4; i++) {
            Due.is("no doubt", x.wheel(i, 5), 0);
            Due.is("in its dock", x.wheel(i, 2), 0);
        }
    }

    private static void promise16RefusalsInTheirOrder() {
        WheelStands x = Due.stands(4, 4);
        x.put(1, 0, 0);
        x.put(3, 0, 1);
        Due.is("charge ahead of child", x.hire(0, 0, 3), -4);
        x.fault(0);
        x.fault(1);
        Due.is("broken ahead of charge", x.hire(0, 0, 3), -3);
        Due.is("a child ahead of broken", x.hire(0, 1, 3), -2);
        Due.is("no wheel ahead of all", x.hire(0, 2, 3), -1);
        x.mend(0);
        x.length(0, 1, 500);
        Due.is("child at the end", x.hire(0, 0, 1), -5);
    }

    private static void promise16ChargeForTheNearest() {
        WheelStands x = Due.stands(6, 2, 2);
        x.put(1, 0, 0);
        x.put(2, 0, 1);
        x.put(0, 0, 3);
        x.length(1, 2, 1);
        x.length(0, 1, 501);
        Due.is("motor, 1002 for 501", x.hire(0, 0, -1), -4);
        x.length(0, 1, 500);
        x.length(0, 2, 400);
        x.charge(0, half());
        Due.is("motor, 800 for 400", x.hire(0, 0, -1), -4);
        x.length(0, 2, 250);
        Due.is("motor, 500 for 250", x.hire(0, 0, -1), 0);
        Due.is("a hire takes no charge", x.wheel(0, 1), 500);
        x.length(0, 2, 334);
        Due.is("cargo, 1002 for 334", x.hire(0, 1, -1), -4);
        x.length(0, 2, 333);
        Due.is("cargo, 999 for 333", x.hire(0, 1, -1), 1);
        Due.is("plain has no need", x.hire(0, 3, -1), 2);
        x = Due.stands(2, 3);
        x.put(1, 1, 0);
        Due.is("stand 0 is the nearest, 1998 for 999", x.hire(1, 0, -1), -4);
        x.length(0, 1, 5);
        Due.is("stand 0 is the nearest, 10 for 5", x.hire(1, 0, -1), 0);
        WheelStands alone = Due.stands(4);
        alone.put(1, 0, 0);
        alone.put(2, 0, 1);
        alone.charge(0, 0);
        alone.charge(1, 0);
        Due.is("motor without another stand", alone.hire(0, 0, -1), 0);
        Due.is("cargo without another stand", alone.hire(0, 1, -1), 1);
    }

    private static void promise16Doubts() {
        WheelStands x = Due.stands(7, 3);
        x.put(0, 0, 0);
        x.put(3, 0, 1);
        x.put(2, 0, 2);
        x.put(3, 0, 4);
        x.put(0, 1, 0);
        x.put(0, 0, 5);
        x.fault(5);
        x.hire(0, 0, -1);
        Due.is("child", x.wheel(1, 5), 1);
        Due.is("cargo, once", x.wheel(2, 5), 1);
        Due.is("another stand", x.wheel(4, 5), 0);
        Due.is("a broken one too", x.wheel(5, 5), 1);
        x.end(0, 0);
        Due.is("the hired one came without", x.wheel(0, 5), 0);
        Due.is("others keep theirs", x.wheel(1, 5), 1);
        x.length(0, 1, 1);
        x.hire(0, 2, 1);
        Due.is("hired: no doubt", x.wheel(2, 5), 0);
        Due.is("hired child: no doubt", x.wheel(1, 5), 0);
        Due.is("the rest: one more", x.wheel(3, 5), 2);
        Due.is("the one that ended", x.wheel(0, 5), 1);
    }

    private static void promise17EndRefused() {
        WheelStands x = Due.stands(4, 2);
        x.put(0, 0, 0);
        x.put(3, 0, 1);
        x.put(0, 0, 2);
        x.hire(0, 0, 1);
        Due.is("end of a child", x.end(1, 1), -1);
        Due.is("end of one in a dock", x.end(2, 1), -1);
        Due.is("end(3, 1)", x.end(3, 1), -1);
        Due.is("end(-1, 1)", x.end(-1, 1), -1);
        Due.is("end(0, 2)", x.end(0, 2), -1);
        Due.is("end(0, -1)", x.end(0, -1), -1);
        Due.is("end(MOST, LEAST)", x.end(MOST, LEAST), -1);
        Due.is("two are hired", x.count(5), 2);
        Due.is("end(0, 1)", x.end(0, 1), 1);
        Due.is("end(0, 1) again", x.end(0, 1), -1);
        Due.tells("no failure", x, 1, 2, 0, 2, 2, 0);
    }

    private static void promise17EndInRoom() {
        WheelStands x = Due.stands(4, 4);
        x.put(0, 0, 0);
        x.put(0, 1, 1);
        x.block(1, 0, true);
        x.hire(0, 0, -1);
        Due.is("end(0, 1)", x.end(0, 1), 1);
        Due.docks("the least free dock", x, 1, -2, 1, 0, -1);
        Due.wheel("in a dock", x, 0, 0, 0, 0, 1, 2, 0, 0, -1);
        x.hire(1, 2, -1);
        Due.is("where it was hired", x.end(0, 1), 1);
        Due.is("in dock 2", x.wheel(0, 4), 2);
    }

    private static WheelStands fullStands() {
        WheelStands x = Due.stands(3, 2, 2, 2);
        x.put(1, 0, 0);
        for (int s = 1; s < 4; s++) {
            x.put(0, s, 0);
            x.put(0, s, 1);
        }
        x.length(0, 1, 10);
        x.length(1, 2, 20);
        x.length(2, 3, 40);
        x.length(1, 3, 80);
        x.length(0, 2, 160);
        x.length(0, 3, 320);
        return x;
    }

    private static void promise17EndGoesOn() {
        WheelStands x = fullStands();
        x.next(1, 2);
        x.next(1, 3);
        x.next(1, 2);
        x.next(1, 0);
        x.next(2, 1);
        x.hire(0, 0, -1);
        Due.is("on to 2, 3, 2 and 0", x.end(0, 1), 0);
        Due.is("over 10, 20, 40, 40, 160", x.wheel(0, 1), 1000 - 2 * 270);
        Due.is("1 failed", x.tell(1, 4), 1);
        Due.is("2 failed twice", x.tell(2, 4), 2);
        Due.is("3 failed", x.tell(3, 4), 1);
        Due.is("0 did not", x.tell(0, 4), 0);
        x.hire(3, 0, -1);
        x.hire(0, 0, -1);
        Due.is("on to 2 and 3", x.end(0, 1), 3);
        Due.is("over 10, 20, 40", x.wheel(0, 1), 460 - 2 * 70);
        Due.is("1 failed twice", x.tell(1, 4), 2);
        Due.is("2 failed three times", x.tell(2, 4), 3);
        Due.is("3 did not once more", x.tell(3, 4), 1);
    }

    private static void promise17EndOnTheStreet() {
        WheelStands x = fullStands();
        x.hire(0, 0, -1);
        Due.is("no row", x.end(0, 3), 103);
        Due.wheel("on the street of 3", x, 0, 1, 360, 3, 3, -1, 0, 0, -1);
        Due.is("3 failed", x.tell(3, 4), 1);
        Due.is("3 has one on its street", x.tell(3, 7), 1);
        x = fullStands();
        x.next(3, 1);
        x.next(3, 2);
        x.next(2, 0);
        x.hire(0, 0, -1);
        Due.is("the row ends, and that of 2 does not count", x.end(0, 3), 102);
        Due.is("over 320, 80, 20", x.wheel(0, 1), 160);
        Due.is("on the street of 2", x.tell(2, 7), 1);
        Due.is("none on that of 3", x.tell(3, 7), 0);
        for (int s = 1; s < 4; s++) {
            Due.is(s + " failed", x.tell(s, 4), 1);
        }
        x = fullStands();
        x.next(1, 0);
        x.hire(0, 0, -1);
        x.tear(1, 0);
        Due.is("the row was torn", x.end(0, 1), 101);
    }

    private static void promise17EndWithChild() {
        WheelStands x = Due.stands(3, 3);
        x.put(0, 0, 0);
        x.put(3, 0, 1);
        x.put(0, 1, 1);
        x.hire(0, 0, 1);
        Due.is("both have room", x.end(0, 1), 1);
        Due.docks("the wheel first", x, 1, 0, 2, 1);
        Due.is("not with it any more", x.wheel(0, 7), -1);
        Due.is("nor the child", x.wheel(1, 7), -1);
        Due.is("the child is in a dock", x.wheel(1, 2), 0);
        Due.is("none failed", x.tell(1, 4), 0);
    }

    private static void promise17EndTakesNoHalf() {
        WheelStands x = Due.stands(3, 3, 2);
        x.put(0, 0, 0);
        x.put(3, 0, 1);
        x.put(0, 1, 1);
        x.block(1, 2, true);
        x.hire(0, 0, 1);
        Due.is("room for one alone", x.end(0, 1), 101);
        Due.docks("none of them is there", x, 1, -1, 2, -2);
        Due.is("1 failed once", x.tell(1, 4), 1);
        Due.is("both on the street", x.tell(1, 7), 2);
        Due.is("none in a dock", x.count(3), 1);
        x = Due.stands(3, 3, 2);
        x.put(2, 0, 0);
        x.put(3, 0, 2);
        x.length(0, 1, 1);
        x.length(0, 2, 1);
        x.length(1, 2, 1);
        x.put(0, 2, 0);
        x.block(2, 1, true);
        x.next(2, 1);
        x.hire(0, 0, 2);
        Due.is("cargo and child, on to 1", x.end(0, 2), 1);
        Due.docks("cargo, then the child", x, 1, 0, 0, 1);
        x.hire(1, 0, 2);
        x.put(0, 1, 2);
        x.next(1, 0);
        Due.is("room for the cargo alone, on to 0", x.end(0, 1), 0);
        Due.docks("no trace at 1", x, 1, -1, -1, 3);
        Due.docks("all at 0", x, 0, 0, 0, 1);
    }

    private static void promise17EndOfCargo() {
        WheelStands x = Due.stands(2, 6);
        x.put(2, 0, 0);
        x.length(0, 1, 100);
        x.put(0, 1, 1);
        x.block(1, 4, true);
        x.hire(0, 0, -1);
        Due.is("two docks side by side", x.end(0, 1), 1);
        Due.docks("docks 2 and 3", x, 1, -1, 1, 0, 0, -2, -1);
        Due.is("its lesser dock", x.wheel(0, 4), 2);
        Due.is("3 for each unit", x.wheel(0, 1), 700);
        x.hire(1, 3, -1);
        x.put(0, 1, 2);
        x.put(0, 0, 0);
        Due.is("free docks, none side by side", x.end(0, 1), 101);
        Due.is("no length where it was hired", x.wheel(0, 1), 700);
    }

    private static void promise17ChargeFalls() {
        WheelStands x = Due.stands(4, 2, 2);
        x.put(1, 0, 0);
        x.length(0, 2, 1);
        x.length(0, 1, 600);
        x.hire(0, 0, -1);
        Due.is("a long way", x.end(0, 1), 1);
        Due.is("down to 0", x.wheel(0, 1), 0);
        x.put(0, 0, 0);
        x.hire(0, 0, -1);
        x.end(1, 1);
        Due.is("plain has none", x.wheel(1, 1), 0);
    }

    private static void promise18Hour() {
        WheelStands x = Due.stands(10, 2);
        x.put(0, 0, 0);
        x.put(1, 0, 1);
        x.put(2, 0, 2);
        x.put(3, 0, 4);
        x.put(1, 0, 5);
        x.put(2, 0, 6);
        x.put(1, 0, 8);
        for (int w : new int[] {1, 2, 4, 5, 6}) {
            x.charge(w, half());
        }
        x.fault(1);
        x.length(0, 1, 1);
        x.hire(0, 5, -1);
        x.hire(0, 6, -1);
        x.cart(4, 0);
        x.pick(0, 8);
        Due.is("an hour", x.hour(), 1);
        int[] due = {0, 600, 550, 0, 500, 500, 500};
        for (int w = 0; w < due.length; w++) {
            Due.is("charge of " + w, x.wheel(w, 1), due[w]);
        }
        x.charge(1, Float.floatToRawIntBits(0.95f));
        x.charge(2, Float.floatToRawIntBits(0.96f));
        Due.is("another", x.hour(), 2);
        Due.is("up to 1000", x.wheel(1, 1), 1000);
        Due.is("cargo up to 1000", x.wheel(2, 1), 1000);
        for (int h = 3; h < 24; h++) {
            Due.is("hour " + h, x.hour(), h);
        }
        Due.is("count(8)", x.count(8), 23);
        Due.is("the day ends", x.hour(), 0);
        Due.is("and begins", x.hour(), 1);
        Due.is("hired ones do not rise", x.wheel(4, 1), 500);
    }

    private static void promise18HourOfTheFirstAndLast() {
        WheelStands x = Due.stands(12, 12, 12, 12, 12);
        for (int i = 0; i < 60; i++) {
            x.put(1, i / 12, i % 12);
            x.charge(i, 0);
        }
        x.hour();
        Due.is("the first wheel", x.wheel(0, 1), 100);
        Due.is("the last wheel", x.wheel(59, 1), 100);
    }
}
