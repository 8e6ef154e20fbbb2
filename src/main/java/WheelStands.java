/**
 * A town's hired bicycles: stands, wheels, hires, carts, demands and rounds.
 * What each call promises is told in the project's document; the words in
 * capitals there (STAND, WHEEL, ROOM, ROUND ..) are the plain names here.
 */
public final class WheelStands {
    public static final int NONE = -1;

    /** What the telling calls answer where there is nothing to tell of. */
    private static final int UNTOLD = -3;
    private static final int UNKNOWN_SHORTAGE = -1000;
    private static final int STREET_MARK = 100;
    private static final int MOST_IMAGES = 4;
    private static final int MINUS_ZERO_BITS = 0x80000000;
    private static final int ONE_BITS = 0x3F800000;

    private final Town town;
    /** An image is null until it is taken; from then on its rows are used again. */
    private final Town[] images;
    private final Tour tour;

    public WheelStands() {
        town = new Town();
        images = new Town[MOST_IMAGES];
        tour = new Tour();
    }

    // ---- stands

    public int stand(int n) {
        return n < Stand.FEWEST_DOCKS || n > Stand.MOST_DOCKS ? NONE : town.addStand(n);
    }

    public boolean length(int a, int b, int l) {
        Stand one = town.standAt(a);
        Stand two = town.standAt(b);
        if (one == null || two == null || a == b || l < 1 || l > Stand.LONGEST) {
            return false;
        }
        one.lengths[b] = l;
        two.lengths[a] = l;
        return true;
    }

    public int next(int stand, int other) {
        Stand s = town.standAt(stand);
        if (s == null || town.standAt(other) == null || stand == other) {
            return NONE;
        }
        return s.addOther(other);
    }

    public boolean tear(int stand, int what) {
        Stand s = town.standAt(stand);
        if (s == null) {
            return false;
        }
        if (what == 0 && s.otherCount != NONE) {
            s.otherCount = NONE;
            return true;
        }
        if (what == 1 && s.demand.known) {
            s.demand.forget();
            return true;
        }
        return false;
    }

    public boolean block(int stand, int dock, boolean blocked) {
        Stand s = town.standAt(stand);
        if (s == null || !s.hasDock(dock)) {
            return false;
        }
        if (s.content[dock] != (blocked ? Stand.FREE : Stand.BLOCKED)) {
            return false;
        }
        s.content[dock] = blocked ? Stand.BLOCKED : Stand.FREE;
        return true;
    }

    public int dock(int stand, int dock) {
        Stand s = town.standAt(stand);
        return s == null || !s.hasDock(dock) ? UNTOLD : s.content[dock];
    }

    public int tell(int stand, int what) {
        Stand s = town.standAt(stand);
        if (s == null) {
            return UNTOLD;
        }
        switch (what) {
            case 0: return s.docks;
            case 1: return s.freeDocks();
            case 2: return town.wheelsAt(stand, Wheel.IN_DOCK);
            case 3: return town.movableAt(stand);
            case 4: return s.failed;
            case 5: return s.wanted;
            case 6: return s.otherCount;
            case 7: return town.wheelsAt(stand, Wheel.ON_STREET);
            default: return UNTOLD;
        }
    }

    // ---- wheels

    public int put(int kind, int stand, int dock) {
        Stand s = town.standAt(stand);
        if (s == null || kind < Wheel.PLAIN || kind > Wheel.CHILD || !s.isFree(dock, Wheel.sizeOf(kind))) {
            return NONE;
        }
        return town.addWheel(kind, s, dock);
    }

    public int charge(int wheel, int bits) {
        Wheel w = town.wheelAt(wheel);
        if (w == null || !w.hasCharge()) {
            return NONE;
        }
        int thousandths = thousandthsOf(bits);
        if (thousandths != NONE) {
            w.charge = thousandths;
        }
        return thousandths;
    }

    public int wheel(int wheel, int what) {
        Wheel w = town.wheelAt(wheel);
        if (w == null) {
            return UNTOLD;
        }
        switch (what) {
            case 0: return w.kind;
            case 1: return w.charge;
            case 2: return w.place;
            case 3: return w.stand;
            case 4: return w.spot;
            case 5: return w.doubt;
            case 6: return w.known ? 1 : 0;
            case 7: return w.partner;
            default: return UNTOLD;
        }
    }

    public boolean fault(int wheel) {
        Wheel w = town.wheelAt(wheel);
        if (w == null || w.broken) {
            return false;
        }
        w.broken = true;
        return true;
    }

    public int test(int wheel) {
        Wheel w = town.wheelAt(wheel);
        if (w == null || w.place == Wheel.HIRED) {
            return NONE;
        }
        if (w.broken) {
            w.known = true;
            return 1;
        }
        w.doubt = 0;
        return 0;
    }

    public boolean mend(int wheel) {
        Wheel w = town.wheelAt(wheel);
        if (w == null || w.place == Wheel.HIRED || !w.broken) {
            return false;
        }
        w.broken = false;
        w.known = false;
        w.doubt = 0;
        return true;
    }

    public int doubt(int n, int k) {
        int before = 0;
        for (int i = 0; i < town.wheelCount; i++) {
            Wheel w = town.wheels[i];
            if (w.place == Wheel.IN_DOCK && w.doubt > n) {
                if (before == k) {
                    return i;
                }
                before++;
            }
        }
        return NONE;
    }

    // ---- hires

    public int hire(int stand, int dock, int child) {
        Wheel w = town.wheelIn(stand, dock);
        if (w == null) {
            return NONE;
        }
        if (w.kind == Wheel.CHILD) {
            return -2;
        }
        if (w.broken) {
            return -3;
        }
        if (!w.lasts(town.nearestLength(stand))) {
            return -4;
        }
        Wheel c = child == NONE ? null : town.wheelIn(stand, child);
        if (child != NONE && (c == null || c.kind != Wheel.CHILD || c.broken)) {
            return -5;
        }
        town.lend(w, c);
        return w.number;
    }

    public int end(int wheel, int stand) {
        Wheel w = town.wheelAt(wheel);
        Stand s = town.standAt(stand);
        if (w == null || s == null || w.place != Wheel.HIRED || w.kind == Wheel.CHILD) {
            return NONE;
        }
        town.bringBack(w, s);
        return w.place == Wheel.ON_STREET ? STREET_MARK + w.stand : w.stand;
    }

    public int hour() {
        for (int i = 0; i < town.wheelCount; i++) {
            if (town.wheels[i].place == Wheel.IN_DOCK) {
                town.wheels[i].chargeAnHour();
            }
        }
        town.hour = town.hour + 1 < Demand.HOURS ? town.hour + 1 : 0;
        return town.hour;
    }

    // ---- carts

    public int cart(int load, int stand) {
        if (load < 1 || load > Cart.MOST_LOAD || town.standAt(stand) == null) {
            return NONE;
        }
        return town.addCart(load, stand);
    }

    public int drive(int cart, int stand) {
        Cart c = town.cartAt(cart);
        if (c == null || town.standAt(stand) == null) {
            return NONE;
        }
        town.moveCart(c, stand);
        return c.gone;
    }

    public int pick(int cart, int dock) {
        Cart c = town.cartAt(cart);
        Wheel w = c == null ? null : town.wheelIn(c.stand, dock);
        if (c == null || w == null || !c.hasRoomFor(w)) {
            return NONE;
        }
        town.takeFromDock(c, w);
        return w.number;
    }

    public boolean fetch(int cart, int wheel) {
        Cart c = town.cartAt(cart);
        Wheel w = town.wheelAt(wheel);
        if (c == null || w == null || w.place != Wheel.ON_STREET || w.stand != c.stand || !c.hasRoomFor(w)) {
            return false;
        }
        c.takeOn(w);
        return true;
    }

    public int drop(int cart) {
        Cart c = town.cartAt(cart);
        Wheel w = c == null ? null : town.wheelAt(c.wheelOn(0));
        if (c == null || w == null || !town.giveFirst(c, w)) {
            return NONE;
        }
        w.doubt = 0;
        return w.spot;
    }

    public int load(int cart, int what) {
        Cart c = town.cartAt(cart);
        if (c == null || what < 0) {
            return UNTOLD;
        }
        switch (what) {
            case 0: return c.load;
            case 1: return c.stand;
            case 2: return c.taken;
            case 3: return c.gone;
            default: return c.wheelOn(what - 4);
        }
    }

    // ---- demands

    public boolean demand(int stand, int hour, int bring, int want) {
        Stand s = town.standAt(stand);
        return s != null && s.demand.tellHour(hour, bring, want);
    }

    public int runs(int stand, int w, int what) {
        Stand s = town.standAt(stand);
        if (s == null || w < 0 || w > s.usableDocks()) {
            return UNTOLD;
        }
        return s.demand.runFrom(w, s.usableDocks(), what);
    }

    public int shortage(int stand) {
        Stand s = town.standAt(stand);
        if (s == null) {
            return UNKNOWN_SHORTAGE;
        }
        return s.demand.bestStart(s.usableDocks()) - town.wheelsAt(stand, Wheel.IN_DOCK);
    }

    // ---- rounds

    public boolean want(int stand, int n) {
        Stand s = town.standAt(stand);
        if (s == null || n < NONE || n > Stand.MOST_DOCKS) {
            return false;
        }
        s.wanted = n;
        return true;
    }

    public int plan(int cart) {
        return tour.prepare(town, town.cartAt(cart));
    }

    public int round(int k) {
        return tour.stopAt(k);
    }

    public int carry(int cart) {
        Cart c = town.cartAt(cart);
        int length = tour.prepare(town, c);
        if (length == NONE || c == null) {
            return NONE;
        }
        for (int k = 0; k < tour.stopCount; k++) {
            town.serve(c, tour.stopAt(k));
        }
        return length;
    }

    // ---- images

    public boolean image(int k) {
        if (k < 0 || k >= MOST_IMAGES) {
            return false;
        }
        if (images[k] == null) {
            images[k] = new Town();
        }
        images[k].copyFrom(town);
        return true;
    }

    public boolean again(int k) {
        if (k < 0 || k >= MOST_IMAGES || images[k] == null) {
            return false;
        }
        town.copyFrom(images[k]);
        return true;
    }

    public int count(int what) {
        switch (what) {
            case 0: return town.standCount;
            case 1: return town.wheelCount;
            case 2: return town.cartCount;
            case 3: return town.wheelsIn(Wheel.IN_DOCK);
            case 4: return town.wheelsIn(Wheel.ON_CART);
            case 5: return town.wheelsIn(Wheel.HIRED);
            case 6: return town.wheelsIn(Wheel.ON_STREET);
            case 7: return town.knownBroken();
            case 8: return town.hour;
            default: return NONE;
        }
    }

    /** The float with these bits times 1000.0f, cut; NONE if it is no number or not 0 .. 1. */
    private static int thousandthsOf(int bits) {
        if (bits == MINUS_ZERO_BITS) {
            return 0;
        }
        // Floats that are not negative are ordered as their bits are, those above 1 and no numbers last.
        if (bits < 0 || bits > ONE_BITS) {
            return NONE;
        }
        int exponent = bits >>> 23;
        // Far below a thousandth; the hidden leading bit that denormal floats lack does not matter here.
        if (exponent < 100) {
            return 0;
        }
        float value = (float) ((bits & 0x7FFFFF) | 0x800000);
        for (int e = exponent; e < 150; e++) {
            value = value * 0.5f;
        }
        return (int) (value * 1000.0f);
    }

    /** A wheel, and where it is: in a dock, on a cart, hired or on a street. */
    private static final class Wheel {
        static final int PLAIN = 0;
        static final int MOTOR = 1;
        static final int CARGO = 2;
        static final int CHILD = 3;
        static final int IN_DOCK = 0;
        static final int ON_CART = 1;
        static final int HIRED = 2;
        static final int ON_STREET = 3;
        static final int FULL_CHARGE = 1000;

        final int number;
        int kind;
        int charge;
        int place;
        /** Of a hired one the stand from which it was. */
        int stand;
        /** The dock (the lesser one) or the cart. */
        int spot;
        int doubt;
        boolean broken;
        boolean known;
        int partner;

        Wheel(int itsNumber) {
            number = itsNumber;
        }

        void setUp(int itsKind) {
            kind = itsKind;
            charge = hasCharge() ? FULL_CHARGE : 0;
            doubt = 0;
            broken = false;
            known = false;
            partner = NONE;
            moveTo(ON_STREET, NONE, NONE);
        }

        void copyFrom(Wheel w) {
            kind = w.kind;
            charge = w.charge;
            place = w.place;
            stand = w.stand;
            spot = w.spot;
            doubt = w.doubt;
            broken = w.broken;
            known = w.known;
            partner = w.partner;
        }

        void moveTo(int newPlace, int newStand, int newSpot) {
            place = newPlace;
            stand = newStand;
            spot = newSpot;
        }

        static int sizeOf(int kind) {
            return kind == CARGO ? 2 : 1;
        }

        int size() {
            return sizeOf(kind);
        }

        boolean hasCharge() {
            return kind == MOTOR || kind == CARGO;
        }

        int chargeFor(int length) {
            if (!hasCharge()) {
                return 0;
            }
            return kind == CARGO ? 3 * length : 2 * length;
        }

        boolean lasts(int length) {
            return charge >= chargeFor(length);
        }

        void ride(int length) {
            charge = Math.max(0, charge - chargeFor(length));
        }

        void chargeAnHour() {
            if (hasCharge()) {
                charge = Math.min(FULL_CHARGE, charge + (kind == CARGO ? 50 : 100));
            }
        }

        boolean isAt(int aStand, int aPlace) {
            return place == aPlace && stand == aStand;
        }
    }

    /** A day's demand of a stand. */
    private static final class Demand {
        static final int HOURS = 24;
        static final int MOST = 99;

        boolean known;
        final int[] bringing;
        final int[] wanting;

        Demand() {
            bringing = new int[HOURS];
            wanting = new int[HOURS];
        }

        private static boolean allows(int n) {
            return n >= 0 && n <= MOST;
        }

        void forget() {
            known = false;
            for (int h = 0; h < HOURS; h++) {
                bringing[h] = 0;
                wanting[h] = 0;
            }
        }

        void copyFrom(Demand d) {
            known = d.known;
            System.arraycopy(d.bringing, 0, bringing, 0, HOURS);
            System.arraycopy(d.wanting, 0, wanting, 0, HOURS);
        }

        boolean tellHour(int hour, int bring, int want) {
            if (hour < 0 || hour >= HOURS || !allows(bring) || !allows(want)) {
                return false;
            }
            known = true;
            bringing[hour] = bring;
            wanting[hour] = want;
            return true;
        }

        /** What 0: how many are turned away, 1: the first hour of that, 2: the wheels at the end. */
        int runFrom(int wheels, int docks, int what) {
            int now = wheels;
            int away = 0;
            int firstHour = NONE;
            for (int h = 0; h < HOURS; h++) {
                int turns = Math.max(bringing[h], wanting[h]);
                for (int turn = 0; turn < turns; turn++) {
                    if (turn < bringing[h]) {
                        if (now < docks) {
                            now++;
                        } else {
                            away++;
                        }
                    }
                    if (turn < wanting[h]) {
                        if (now > 0) {
                            now--;
                        } else {
                            away++;
                        }
                    }
                }
                if (away > 0 && firstHour == NONE) {
                    firstHour = h;
                }
            }
            switch (what) {
                case 0: return away;
                case 1: return firstHour;
                case 2: return now;
                default: return UNTOLD;
            }
        }

        int bestStart(int docks) {
            int best = 0;
            int fewest = runFrom(0, docks, 0);
            for (int wheels = 1; wheels <= docks; wheels++) {
                int away = runFrom(wheels, docks, 0);
                if (away < fewest) {
                    fewest = away;
                    best = wheels;
                }
            }
            return best;
        }
    }

    /** A stand with its docks, the ways to others, and what is told of it. */
    private static final class Stand {
        static final int FEWEST_DOCKS = 2;
        static final int MOST_DOCKS = 12;
        static final int MOST_OTHERS = 8;
        static final int LONGEST = 999;
        static final int FREE = -1;
        static final int BLOCKED = -2;

        final int number;
        int docks;
        /** Of each dock the wheel, or FREE, or BLOCKED. */
        final int[] content;
        final int[] lengths;
        final int[] others;
        /** NONE while the row of others is missing. */
        int otherCount;
        int wanted;
        int failed;
        final Demand demand;

        Stand(int itsNumber) {
            number = itsNumber;
            content = new int[MOST_DOCKS];
            lengths = new int[Town.MOST_STANDS];
            others = new int[MOST_OTHERS];
            demand = new Demand();
        }

        void setUp(int n) {
            docks = n;
            otherCount = NONE;
            wanted = NONE;
            failed = 0;
            for (int d = 0; d < MOST_DOCKS; d++) {
                content[d] = FREE;
            }
            for (int s = 0; s < Town.MOST_STANDS; s++) {
                lengths[s] = s == number ? 0 : LONGEST;
            }
            demand.forget();
        }

        void copyFrom(Stand s) {
            docks = s.docks;
            otherCount = s.otherCount;
            wanted = s.wanted;
            failed = s.failed;
            System.arraycopy(s.content, 0, content, 0, MOST_DOCKS);
            System.arraycopy(s.lengths, 0, lengths, 0, Town.MOST_STANDS);
            System.arraycopy(s.others, 0, others, 0, MOST_OTHERS);
            demand.copyFrom(s.demand);
        }

        boolean hasDock(int d) {
            return d >= 0 && d < docks && d < MOST_DOCKS;
        }

        int addOther(int other) {
            int at = Math.max(0, otherCount);
            if (at >= MOST_OTHERS) {
                return NONE;
            }
            others[at] = other;
            otherCount = at + 1;
            return otherCount;
        }

        int otherAt(int k) {
            return k >= 0 && k < otherCount && k < MOST_OTHERS ? others[k] : NONE;
        }

        int lengthTo(int stand) {
            return stand >= 0 && stand < Town.MOST_STANDS ? lengths[stand] : LONGEST;
        }

        int docksWith(int what) {
            int n = 0;
            for (int d = 0; d < docks; d++) {
                if (content[d] == what) {
                    n++;
                }
            }
            return n;
        }

        int freeDocks() {
            return docksWith(FREE);
        }

        int usableDocks() {
            return docks - docksWith(BLOCKED);
        }

        boolean isFree(int d, int size) {
            if (!hasDock(d) || !hasDock(d + size - 1)) {
                return false;
            }
            return content[d] == FREE && content[d + size - 1] == FREE;
        }

        /** The least dock where a wheel of this size has room, or NONE. */
        int roomFor(int size) {
            for (int d = 0; d < docks; d++) {
                if (isFree(d, size)) {
                    return d;
                }
            }
            return NONE;
        }

        void fill(int d, int size, int what) {
            for (int i = 0; i < size; i++) {
                if (hasDock(d + i)) {
                    content[d + i] = what;
                }
            }
        }
    }

    /** A cart and the wheels on it, in the order in which they came. */
    private static final class Cart {
        static final int MOST_LOAD = 8;

        final int number;
        int load;
        int stand;
        int taken;
        int gone;
        final int[] row;
        int count;

        Cart(int itsNumber) {
            number = itsNumber;
            row = new int[MOST_LOAD];
        }

        void setUp(int itsLoad, int itsStand) {
            load = itsLoad;
            stand = itsStand;
            taken = 0;
            gone = 0;
            count = 0;
        }

        void copyFrom(Cart c) {
            load = c.load;
            stand = c.stand;
            taken = c.taken;
            gone = c.gone;
            count = c.count;
            System.arraycopy(c.row, 0, row, 0, MOST_LOAD);
        }

        boolean hasRoomFor(Wheel w) {
            return taken + w.size() <= load && count < MOST_LOAD;
        }

        int wheelOn(int k) {
            return k >= 0 && k < count && k < MOST_LOAD ? row[k] : NONE;
        }

        void takeOn(Wheel w) {
            if (hasRoomFor(w)) {
                row[count] = w.number;
                count++;
                taken += w.size();
                w.moveTo(Wheel.ON_CART, NONE, number);
            }
        }

        void letFirstGo(Wheel w) {
            for (int i = 1; i < count; i++) {
                row[i - 1] = row[i];
            }
            count--;
            taken -= w.size();
        }
    }

    /** All that an image holds: stands, wheels, carts and the hour. */
    private static final class Town {
        static final int MOST_STANDS = 12;
        static final int MOST_WHEELS = 60;
        static final int MOST_CARTS = 3;

        final Stand[] stands;
        int standCount;
        final Wheel[] wheels;
        int wheelCount;
        final Cart[] carts;
        int cartCount;
        int hour;

        Town() {
            stands = new Stand[MOST_STANDS];
            for (int i = 0; i < MOST_STANDS; i++) {
                stands[i] = new Stand(i);
            }
            wheels = new Wheel[MOST_WHEELS];
            for (int i = 0; i < MOST_WHEELS; i++) {
                wheels[i] = new Wheel(i);
            }
            carts = new Cart[MOST_CARTS];
            for (int i = 0; i < MOST_CARTS; i++) {
                carts[i] = new Cart(i);
            }
        }

        void copyFrom(Town t) {
            standCount = t.standCount;
            wheelCount = t.wheelCount;
            cartCount = t.cartCount;
            hour = t.hour;
            for (int i = 0; i < MOST_STANDS; i++) {
                stands[i].copyFrom(t.stands[i]);
            }
            for (int i = 0; i < MOST_WHEELS; i++) {
                wheels[i].copyFrom(t.wheels[i]);
            }
            for (int i = 0; i < MOST_CARTS; i++) {
                carts[i].copyFrom(t.carts[i]);
            }
        }

        Stand standAt(int n) {
            return n >= 0 && n < standCount && n < MOST_STANDS ? stands[n] : null;
        }

        Wheel wheelAt(int n) {
            return n >= 0 && n < wheelCount && n < MOST_WHEELS ? wheels[n] : null;
        }

        Cart cartAt(int n) {
            return n >= 0 && n < cartCount && n < MOST_CARTS ? carts[n] : null;
        }

        Wheel wheelIn(int stand, int dock) {
            Stand s = standAt(stand);
            return s == null || !s.hasDock(dock) ? null : wheelAt(s.content[dock]);
        }

        /** The number of a new stand, or NONE if there are no more; likewise of a wheel and a cart. */
        int addStand(int docks) {
            if (standCount >= MOST_STANDS) {
                return NONE;
            }
            stands[standCount].setUp(docks);
            standCount++;
            return standCount - 1;
        }

        int addWheel(int kind, Stand s, int dock) {
            if (wheelCount >= MOST_WHEELS) {
                return NONE;
            }
            Wheel w = wheels[wheelCount];
            w.setUp(kind);
            putInDock(w, s, dock);
            wheelCount++;
            return w.number;
        }

        int addCart(int load, int stand) {
            if (cartCount >= MOST_CARTS) {
                return NONE;
            }
            carts[cartCount].setUp(load, stand);
            cartCount++;
            return cartCount - 1;
        }

        int wheelsIn(int place) {
            int n = 0;
            for (int i = 0; i < wheelCount; i++) {
                if (wheels[i].place == place) {
                    n++;
                }
            }
            return n;
        }

        int knownBroken() {
            int n = 0;
            for (int i = 0; i < wheelCount; i++) {
                if (wheels[i].known) {
                    n++;
                }
            }
            return n;
        }

        int wheelsAt(int stand, int place) {
            int n = 0;
            for (int i = 0; i < wheelCount; i++) {
                if (wheels[i].isAt(stand, place)) {
                    n++;
                }
            }
            return n;
        }

        int movableAt(int stand) {
            int n = 0;
            for (int i = 0; i < wheelCount; i++) {
                if (wheels[i].isAt(stand, Wheel.IN_DOCK) && wheels[i].kind != Wheel.CARGO) {
                    n++;
                }
            }
            return n;
        }

        /** How many movable wheels a stand has above what it wants; below 0 if some are missing. */
        int surplusAt(Stand s) {
            return s.wanted == NONE ? 0 : movableAt(s.number) - s.wanted;
        }

        int lengthBetween(int a, int b) {
            Stand s = standAt(a);
            return s == null ? Stand.LONGEST : s.lengthTo(b);
        }

        /** The length to the nearest other stand; 0 if there is no other. */
        int nearestLength(int stand) {
            int least = Stand.LONGEST + 1;
            for (int i = 0; i < standCount; i++) {
                if (i != stand) {
                    least = Math.min(least, lengthBetween(stand, i));
                }
            }
            return least > Stand.LONGEST ? 0 : least;
        }

        void putInDock(Wheel w, Stand s, int dock) {
            s.fill(dock, w.size(), w.number);
            w.moveTo(Wheel.IN_DOCK, s.number, dock);
        }

        void clearDock(Wheel w) {
            Stand s = standAt(w.stand);
            if (s != null && w.place == Wheel.IN_DOCK) {
                s.fill(w.spot, w.size(), Stand.FREE);
            }
        }

        void lend(Wheel w, Wheel child) {
            int stand = w.stand;
            lendOne(w, child);
            if (child != null) {
                lendOne(child, w);
            }
            for (int i = 0; i < wheelCount; i++) {
                if (wheels[i].isAt(stand, Wheel.IN_DOCK)) {
                    wheels[i].doubt++;
                }
            }
        }

        private void lendOne(Wheel w, Wheel partner) {
            clearDock(w);
            w.moveTo(Wheel.HIRED, w.stand, NONE);
            w.partner = partner == null ? NONE : partner.number;
            w.doubt = 0;
        }

        void bringBack(Wheel w, Stand first) {
            Wheel child = wheelAt(w.partner);
            Stand here = first;
            int ridden = lengthBetween(w.stand, first.number);
            boolean docked = docksBoth(w, child, first);
            for (int i = 0; i < first.otherCount && !docked; i++) {
                Stand onward = standAt(first.otherAt(i));
                if (onward != null) {
                    ridden += lengthBetween(here.number, onward.number);
                    here = onward;
                    docked = docksBoth(w, child, here);
                }
            }
            if (!docked) {
                leaveOnStreet(w, child, here.number);
            }
            w.ride(ridden);
            w.partner = NONE;
            if (child != null) {
                child.partner = NONE;
            }
        }

        /** Puts both in docks of the stand, or neither; the latter counts as a failure of it. */
        private boolean docksBoth(Wheel w, Wheel child, Stand s) {
            int dock = s.roomFor(w.size());
            if (dock == NONE) {
                s.failed++;
                return false;
            }
            if (child != null) {
                // The child's room is looked for beside the wheel, so the wheel takes its docks first.
                s.fill(dock, w.size(), w.number);
                int beside = s.roomFor(child.size());
                if (beside == NONE) {
                    s.fill(dock, w.size(), Stand.FREE);
                    s.failed++;
                    return false;
                }
                putInDock(child, s, beside);
            }
            putInDock(w, s, dock);
            return true;
        }

        private void leaveOnStreet(Wheel w, Wheel child, int stand) {
            w.moveTo(Wheel.ON_STREET, stand, NONE);
            if (child != null) {
                child.moveTo(Wheel.ON_STREET, stand, NONE);
            }
        }

        void moveCart(Cart c, int stand) {
            c.gone += lengthBetween(c.stand, stand);
            c.stand = stand;
        }

        void takeFromDock(Cart c, Wheel w) {
            if (c.hasRoomFor(w)) {
                clearDock(w);
                c.takeOn(w);
            }
        }

        /** The wheel that came first goes from the cart to room at its stand; false if there is none. */
        boolean giveFirst(Cart c, Wheel w) {
            Stand s = standAt(c.stand);
            int dock = s == null ? NONE : s.roomFor(w.size());
            if (s == null || dock == NONE || c.wheelOn(0) != w.number) {
                return false;
            }
            c.letFirstGo(w);
            putInDock(w, s, dock);
            return true;
        }

        /** A cart goes to a stand of its round, and takes or gives what puts that in balance. */
        void serve(Cart c, int stand) {
            Stand s = standAt(stand);
            if (s == null) {
                return;
            }
            moveCart(c, stand);
            int surplus = surplusAt(s);
            for (int d = 0; d < s.docks && surplus > 0; d++) {
                Wheel w = wheelIn(stand, d);
                if (w != null && w.kind != Wheel.CARGO) {
                    takeFromDock(c, w);
                    surplus--;
                }
            }
            for (int missing = -surplus; missing > 0; missing--) {
                Wheel w = wheelAt(c.wheelOn(0));
                if (w != null) {
                    giveFirst(c, w);
                }
            }
        }
    }

    /**
     * The round at hand, and the search for the next one: over sets of visited
     * stands, since what a cart holds hangs on which it has visited alone.
     */
    private static final class Tour {
        static final int MOST_STOPS = 7;
        static final int SETS = 1 << MOST_STOPS;
        /** Above the length of every round. */
        static final int ENDLESS = 1000000;

        final int[] stops;
        int stopCount;
        /** The stands out of balance, in order, and what each has above what it wants. */
        final int[] stands;
        final int[] surplus;
        int count;
        /** By set of stands visited: what the cart holds then. */
        final int[] held;
        /** By set and the last of it: the least length that is left, or ENDLESS. */
        final int[] left;

        Tour() {
            stops = new int[MOST_STOPS];
            stands = new int[MOST_STOPS];
            surplus = new int[MOST_STOPS];
            held = new int[SETS];
            left = new int[SETS * MOST_STOPS];
        }

        int stopAt(int k) {
            return k >= 0 && k < stopCount && k < MOST_STOPS ? stops[k] : NONE;
        }

        /** The length of the cart's round, which is at hand then; NONE if there is none. */
        int prepare(Town town, Cart cart) {
            if (cart == null || cart.count > 0 || !gather(town)) {
                return NONE;
            }
            addUpHeld();
            measureLeft(town, cart.load);
            int length = leastOnward(town, cart.stand, 0);
            if (length >= ENDLESS) {
                return NONE;
            }
            trace(town, cart.stand);
            return length;
        }

        private boolean gather(Town town) {
            count = 0;
            for (int i = 0; i < town.standCount; i++) {
                Stand s = town.stands[i];
                int above = town.surplusAt(s);
                if (above != 0) {
                    if (count >= MOST_STOPS || s.freeDocks() < -above) {
                        return false;
                    }
                    stands[count] = i;
                    surplus[count] = above;
                    count++;
                }
            }
            return true;
        }

        private int allStands() {
            return (1 << count) - 1;
        }

        private void addUpHeld() {
            for (int set = 0; set <= allStands(); set++) {
                held[set] = 0;
                for (int i = 0; i < count; i++) {
                    if ((set >> i & 1) == 1) {
                        held[set] += surplus[i];
                    }
                }
            }
        }

        private void measureLeft(Town town, int load) {
            // A larger set is a larger number, so what follows a set is measured before it.
            for (int set = allStands(); set > 0; set--) {
                boolean fits = held[set] >= 0 && held[set] <= load;
                for (int last = 0; last < count; last++) {
                    if ((set >> last & 1) == 1) {
                        left[set * MOST_STOPS + last] = fits ? leastOnward(town, stands[last], set) : ENDLESS;
                    }
                }
            }
        }

        /** The least length from a stand through all that are not visited yet. */
        private int leastOnward(Town town, int from, int visited) {
            if (visited == allStands()) {
                return held[visited] == 0 ? 0 : ENDLESS;
            }
            int least = ENDLESS;
            for (int i = 0; i < count; i++) {
                if ((visited >> i & 1) == 0) {
                    least = Math.min(least, onwardBy(town, from, visited, i));
                }
            }
            return least;
        }

        private int onwardBy(Town town, int from, int visited, int i) {
            return town.lengthBetween(from, stands[i]) + left[(visited | 1 << i) * MOST_STOPS + i];
        }

        /** Of the shortest rounds that with the least first stand, then the second, and so on. */
        private void trace(Town town, int start) {
            int visited = 0;
            int from = start;
            for (int k = 0; k < count; k++) {
                int best = leastOnward(town, from, visited);
                int i = 0;
                while (i < count - 1 && !leadsOn(town, from, visited, i, best)) {
                    i++;
                }
                stops[k] = stands[i];
                visited |= 1 << i;
                from = stands[i];
            }
            stopCount = count;
        }

        private boolean leadsOn(Town town, int from, int visited, int i, int best) {
            return (visited >> i & 1) == 0 && onwardBy(town, from, visited, i) == best;
        }
    }
}
