import java.util.ArrayList;
import java.util.HashMap;
import java.util.List;
import java.util.Map;
import java.util.TreeSet;

/**
 * The document once more, written as plainly as can be and with other means
 * than the program: docks are looked for among the wheels, rounds among all
 * orders, demands one person after the other.
 */
final class PlainModel {
    private static final class Bike {
        int number;
        int kind;
        int charge;
        char at = 'd';
        int stand = -1;
        int dock = -1;
        int cart = -1;
        int doubt;
        boolean broken;
        boolean known;
        int with = -1;

        Bike copy() {
            Bike b = new Bike();
            b.number = number;
            b.kind = kind;
            b.charge = charge;
            b.at = at;
            b.stand = stand;
            b.dock = dock;
            b.cart = cart;
            b.doubt = doubt;
            b.broken = broken;
            b.known = known;
            b.with = with;
            return b;
        }

        int docks() {
            return kind == 2 ? 2 : 1;
        }

        boolean electric() {
            return kind == 1 || kind == 2;
        }

        boolean covers(int s, int d) {
            return at == 'd' && stand == s && d >= dock && d < dock + docks();
        }
    }

    private static final class Place {
        int docks;
        TreeSet<Integer> blocked = new TreeSet<>();
        List<Integer> row;
        Map<Integer, int[]> demand;
        int want = -1;
        int failed;

        Place copy() {
            Place p = new Place();
            p.docks = docks;
            p.blocked = new TreeSet<>(blocked);
            p.row = row == null ? null : new ArrayList<>(row);
            p.demand = demand == null ? null : new HashMap<>(demand);
            p.want = want;
            p.failed = failed;
            return p;
        }
    }

    private static final class Lorry {
        int load;
        int stand;
        int gone;
        List<Integer> on = new ArrayList<>();

        Lorry copy() {
            Lorry l = new Lorry();
            l.load = load;
            l.stand = stand;
            l.gone = gone;
            l.on = new ArrayList<>(on);
            return l;
        }
    }

    private static final class State {
        List<Place> places = new ArrayList<>();
        List<Bike> bikes = new ArrayList<>();
        List<Lorry> lorries = new ArrayList<>();
        Map<Integer, Integer> ways = new HashMap<>();
        int hour;

        State copy() {
            State t = new State();
            places.forEach(p -> t.places.add(p.copy()));
            bikes.forEach(b -> t.bikes.add(b.copy()));
            lorries.forEach(l -> t.lorries.add(l.copy()));
            t.ways.putAll(ways);
            t.hour = hour;
            return t;
        }
    }

    private State now = new State();
    private final Map<Integer, State> images = new HashMap<>();
    private List<Integer> atHand = new ArrayList<>();

    private boolean isPlace(int s) {
        return s >= 0 && s < now.places.size();
    }

    private boolean isDock(int s, int d) {
        return isPlace(s) && d >= 0 && d < now.places.get(s).docks;
    }

    private boolean isBike(int w) {
        return w >= 0 && w < now.bikes.size();
    }

    private boolean isLorry(int c) {
        return c >= 0 && c < now.lorries.size();
    }

    private int way(int a, int b) {
        return a == b ? 0 : now.ways.getOrDefault(Math.min(a, b) * 100 + Math.max(a, b), 999);
    }

    private boolean free(int s, int d) {
        return dock(s, d) == -1;
    }

    private int room(int s, int docks) {
        for (int d = 0; d + docks <= now.places.get(s).docks; d++) {
            if (free(s, d) && free(s, d + docks - 1)) {
                return d;
            }
        }
        return -1;
    }

    int stand(int n) {
        if (now.places.size() == 12 || n < 2 || n > 12) {
            return -1;
        }
        Place p = new Place();
        p.docks = n;
        now.places.add(p);
        return now.places.size() - 1;
    }

    boolean length(int a, int b, int l) {
        if (!isPlace(a) || !isPlace(b) || a == b || l < 1 || l > 999) {
            return false;
        }
        now.ways.put(Math.min(a, b) * 100 + Math.max(a, b), l);
        return true;
    }

    int next(int s, int other) {
        if (!isPlace(s) || !isPlace(other) || s == other) {
            return -1;
        }
        Place p = now.places.get(s);
        if (p.row == null) {
            p.row = new ArrayList<>();
        }
        if (p.row.size() == 8) {
            return -1;
        }
        p.row.add(other);
        return p.row.size();
    }

    boolean tear(int s, int what) {
        if (!isPlace(s) || what < 0 || what > 1) {
            return false;
        }
        Place p = now.places.get(s);
        boolean was = what == 0 ? p.row != null : p.demand != null;
        if (what == 0) {
            p.row = null;
        } else {
            p.demand = null;
        }
        return was;
    }

    boolean block(int s, int d, boolean blocked) {
        if (!isDock(s, d) || dock(s, d) >= 0) {
            return false;
        }
        TreeSet<Integer> set = now.places.get(s).blocked;
        return blocked ? set.add(d) : set.remove(d);
    }

    int dock(int s, int d) {
        if (!isDock(s, d)) {
            return -3;
        }
        if (now.places.get(s).blocked.contains(d)) {
            return -2;
        }
        for (Bike b : now.bikes) {
            if (b.covers(s, d)) {
                return b.number;
            }
        }
        return -1;
    }

    int tell(int s, int what) {
        if (!isPlace(s)) {
            return -3;
        }
        Place p = now.places.get(s);
        int free = 0;
        int movable = 0;
        TreeSet<Integer> in = new TreeSet<>();
        for (int d = 0; d < p.docks; d++) {
            int w = dock(s, d);
            if (w == -1) {
                free++;
            } else if (w >= 0 && in.add(w) && now.bikes.get(w).kind != 2) {
                movable++;
            }
        }
        long street = now.bikes.stream().filter(b -> b.at == 's' && b.stand == s).count();
        int[] all = {p.docks, free, in.size(), movable, p.failed, p.want,
            p.row == null ? -1 : p.row.size(), (int) street};
        return what >= 0 && what < all.length ? all[what] : -3;
    }

    int put(int kind, int s, int d) {
        if (now.bikes.size() == 60 || kind < 0 || kind > 3 || !isDock(s, d) || !free(s, d)) {
            return -1;
        }
        if (kind == 2 && (!isDock(s, d + 1) || !free(s, d + 1))) {
            return -1;
        }
        Bike b = new Bike();
        b.number = now.bikes.size();
        b.kind = kind;
        b.charge = b.electric() ? 1000 : 0;
        b.stand = s;
        b.dock = d;
        now.bikes.add(b);
        return b.number;
    }

    int charge(int w, int bits) {
        float f = Float.intBitsToFloat(bits);
        if (!isBike(w) || !now.bikes.get(w).electric() || !(f >= 0f && f <= 1f)) {
            return -1;
        }
        now.bikes.get(w).charge = (int) (f * 1000.0f);
        return now.bikes.get(w).charge;
    }

    int wheel(int w, int what) {
        if (!isBike(w)) {
            return -3;
        }
        Bike b = now.bikes.get(w);
        int[] all = {b.kind, b.charge, "dchs".indexOf(b.at), b.at == 'c' ? -1 : b.stand,
            b.at == 'd' ? b.dock : b.at == 'c' ? b.cart : -1, b.doubt, b.broken && b.known ? 1 : 0,
            b.at == 'h' ? b.with : -1};
        return what >= 0 && what < all.length ? all[what] : -3;
    }

    boolean fault(int w) {
        if (!isBike(w) || now.bikes.get(w).broken) {
            return false;
        }
        now.bikes.get(w).broken = true;
        now.bikes.get(w).known = false;
        return true;
    }

    int test(int w) {
        if (!isBike(w) || now.bikes.get(w).at == 'h') {
            return -1;
        }
        Bike b = now.bikes.get(w);
        if (b.broken) {
            b.known = true;
        } else {
            b.doubt = 0;
        }
        return b.broken ? 1 : 0;
    }

    boolean mend(int w) {
        if (!isBike(w) || now.bikes.get(w).at == 'h' || !now.bikes.get(w).broken) {
            return false;
        }
        now.bikes.get(w).broken = false;
        now.bikes.get(w).doubt = 0;
        return true;
    }

    int doubt(int n, int k) {
        List<Integer> all = new ArrayList<>();
        for (Bike b : now.bikes) {
            if (b.at == 'd' && b.doubt > n) {
                all.add(b.number);
            }
        }
        return k >= 0 && k < all.size() ? all.get(k) : -1;
    }

    int hire(int s, int d, int child) {
        int w = dock(s, d);
        if (w < 0) {
            return -1;
        }
        Bike b = now.bikes.get(w);
        if (b.kind == 3) {
            return -2;
        }
        if (b.broken) {
            return -3;
        }
        int near = Integer.MAX_VALUE;
        for (int o = 0; o < now.places.size(); o++) {
            if (o != s) {
                near = Math.min(near, way(s, o));
            }
        }
        if (b.electric() && near <= 999 && b.charge < near * (b.kind == 2 ? 3 : 2)) {
            return -4;
        }
        Bike c = null;
        if (child != -1) {
            int other = dock(s, child);
            if (other < 0 || now.bikes.get(other).kind != 3 || now.bikes.get(other).broken) {
                return -5;
            }
            c = now.bikes.get(other);
            c.at = 'h';
            c.with = w;
            c.doubt = 0;
        }
        b.at = 'h';
        b.with = c == null ? -1 : c.number;
        b.doubt = 0;
        for (Bike o : now.bikes) {
            if (o.at == 'd' && o.stand == s) {
                o.doubt++;
            }
        }
        return w;
    }

    int end(int w, int s) {
        if (!isBike(w) || !isPlace(s) || now.bikes.get(w).at != 'h' || now.bikes.get(w).kind == 3) {
            return -1;
        }
        Bike b = now.bikes.get(w);
        Bike c = b.with == -1 ? null : now.bikes.get(b.with);
        List<Integer> way = new ArrayList<>();
        way.add(s);
        if (now.places.get(s).row != null) {
            way.addAll(now.places.get(s).row);
        }
        int here = b.stand;
        for (int to : way) {
            int fall = way(here, to) * (b.kind == 1 ? 2 : b.kind == 2 ? 3 : 0);
            b.charge = Math.max(0, b.charge - fall);
            here = to;
            b.stand = here;
            int d = room(here, b.docks());
            if (d >= 0) {
                b.at = 'd';
                b.dock = d;
                int beside = c == null ? -1 : room(here, 1);
                if (c == null || beside >= 0) {
                    b.with = -1;
                    if (c != null) {
                        c.at = 'd';
                        c.stand = here;
                        c.dock = beside;
                        c.with = -1;
                    }
                    return here;
                }
                b.at = 'h';
            }
            now.places.get(here).failed++;
        }
        for (Bike o : c == null ? List.of(b) : List.of(b, c)) {
            o.at = 's';
            o.stand = here;
            o.with = -1;
        }
        return 100 + here;
    }

    int hour() {
        now.hour = (now.hour + 1) % 24;
        for (Bike b : now.bikes) {
            if (b.at == 'd' && b.electric()) {
                b.charge = Math.min(1000, b.charge + (b.kind == 1 ? 100 : 50));
            }
        }
        return now.hour;
    }

    int cart(int load, int s) {
        if (now.lorries.size() == 3 || load < 1 || load > 8 || !isPlace(s)) {
            return -1;
        }
        Lorry l = new Lorry();
        l.load = load;
        l.stand = s;
        now.lorries.add(l);
        return now.lorries.size() - 1;
    }

    int drive(int c, int s) {
        if (!isLorry(c) || !isPlace(s)) {
            return -1;
        }
        Lorry l = now.lorries.get(c);
        l.gone += way(l.stand, s);
        l.stand = s;
        return l.gone;
    }

    private int taken(Lorry l) {
        return l.on.stream().mapToInt(w -> now.bikes.get(w).docks()).sum();
    }

    private boolean takeOn(int c, Bike b) {
        Lorry l = now.lorries.get(c);
        if (taken(l) + b.docks() > l.load) {
            return false;
        }
        l.on.add(b.number);
        b.at = 'c';
        b.cart = c;
        return true;
    }

    int pick(int c, int d) {
        if (!isLorry(c)) {
            return -1;
        }
        int w = dock(now.lorries.get(c).stand, d);
        return w >= 0 && takeOn(c, now.bikes.get(w)) ? w : -1;
    }

    boolean fetch(int c, int w) {
        if (!isLorry(c) || !isBike(w)) {
            return false;
        }
        Bike b = now.bikes.get(w);
        return b.at == 's' && b.stand == now.lorries.get(c).stand && takeOn(c, b);
    }

    private int giveFirst(int c) {
        Lorry l = now.lorries.get(c);
        Bike b = now.bikes.get(l.on.get(0));
        int d = room(l.stand, b.docks());
        if (d >= 0) {
            l.on.remove(0);
            b.at = 'd';
            b.stand = l.stand;
            b.dock = d;
        }
        return d;
    }

    int drop(int c) {
        if (!isLorry(c) || now.lorries.get(c).on.isEmpty()) {
            return -1;
        }
        Bike b = now.bikes.get(now.lorries.get(c).on.get(0));
        int d = giveFirst(c);
        if (d >= 0) {
            b.doubt = 0;
        }
        return d;
    }

    int load(int c, int what) {
        if (!isLorry(c) || what < 0) {
            return -3;
        }
        Lorry l = now.lorries.get(c);
        int[] all = {l.load, l.stand, taken(l), l.gone};
        if (what < 4) {
            return all[what];
        }
        return what - 4 < l.on.size() ? l.on.get(what - 4) : -1;
    }

    boolean demand(int s, int h, int bring, int want) {
        if (!isPlace(s) || h < 0 || h > 23 || bring < 0 || bring > 99 || want < 0 || want > 99) {
            return false;
        }
        Place p = now.places.get(s);
        if (p.demand == null) {
            p.demand = new HashMap<>();
        }
        p.demand.put(h, new int[] {bring, want});
        return true;
    }

    int runs(int s, int w, int what) {
        if (!isPlace(s) || what < 0 || what > 2) {
            return -3;
        }
        Place p = now.places.get(s);
        int c = p.docks - p.blocked.size();
        if (w < 0 || w > c) {
            return -3;
        }
        int away = 0;
        int first = -1;
        int wheels = w;
        for (int h = 0; h < 24; h++) {
            for (char who : queue(p, h).toCharArray()) {
                boolean refused = who == 'b' ? wheels == c : wheels == 0;
                if (refused) {
                    away++;
                    first = first == -1 ? h : first;
                } else {
                    wheels += who == 'b' ? 1 : -1;
                }
            }
        }
        return new int[] {away, first, wheels}[what];
    }

    private static String queue(Place p, int h) {
        int[] both = p.demand == null ? null : p.demand.get(h);
        if (both == null) {
            return "";
        }
        int pairs = Math.min(both[0], both[1]);
        return "bw".repeat(pairs) + "b".repeat(both[0] - pairs) + "w".repeat(both[1] - pairs);
    }

    int shortage(int s) {
        if (!isPlace(s)) {
            return -1000;
        }
        int c = now.places.get(s).docks - now.places.get(s).blocked.size();
        int best = c;
        for (int w = c; w >= 0; w--) {
            if (runs(s, w, 0) <= runs(s, best, 0)) {
                best = w;
            }
        }
        return best - tell(s, 2);
    }

    boolean want(int s, int n) {
        if (!isPlace(s) || n < -1 || n > 12) {
            return false;
        }
        now.places.get(s).want = n;
        return true;
    }

    private int above(int s) {
        int want = now.places.get(s).want;
        return want == -1 ? 0 : tell(s, 3) - want;
    }

    private List<Integer> best;
    private int bestLength;

    private void tryAll(int from, int gone, int held, int load, List<Integer> done, List<Integer> left) {
        if (left.isEmpty()) {
            if (held == 0 && (best == null || gone < bestLength)) {
                best = new ArrayList<>(done);
                bestLength = gone;
            }
            return;
        }
        for (int i = 0; i < left.size(); i++) {
            int s = left.remove(i);
            int then = held + above(s);
            if (then >= 0 && then <= load) {
                done.add(s);
                tryAll(s, gone + way(from, s), then, load, done, left);
                done.remove(done.size() - 1);
            }
            left.add(i, s);
        }
    }

    int plan(int c) {
        if (!isLorry(c) || !now.lorries.get(c).on.isEmpty()) {
            return -1;
        }
        List<Integer> out = new ArrayList<>();
        for (int s = 0; s < now.places.size(); s++) {
            if (above(s) != 0) {
                out.add(s);
                if (tell(s, 1) < -above(s)) {
                    return -1;
                }
            }
        }
        if (out.size() > 7) {
            return -1;
        }
        best = null;
        tryAll(now.lorries.get(c).stand, 0, 0, now.lorries.get(c).load, new ArrayList<>(), out);
        if (best == null) {
            return -1;
        }
        atHand = best;
        return bestLength;
    }

    int round(int k) {
        return k >= 0 && k < atHand.size() ? atHand.get(k) : -1;
    }

    int carry(int c) {
        int length = plan(c);
        if (length == -1) {
            return -1;
        }
        for (int s : atHand) {
            drive(c, s);
            int above = above(s);
            for (int d = 0; above > 0; d++) {
                int w = dock(s, d);
                if (w >= 0 && now.bikes.get(w).kind != 2) {
                    takeOn(c, now.bikes.get(w));
                    above--;
                }
            }
            for (; above < 0; above++) {
                giveFirst(c);
            }
        }
        return length;
    }

    boolean image(int k) {
        if (k < 0 || k > 3) {
            return false;
        }
        images.put(k, now.copy());
        return true;
    }

    boolean again(int k) {
        if (!images.containsKey(k)) {
            return false;
        }
        now = images.get(k).copy();
        return true;
    }

    int count(int what) {
        int[] at = new int[4];
        int known = 0;
        for (Bike b : now.bikes) {
            at["dchs".indexOf(b.at)]++;
            known += b.broken && b.known ? 1 : 0;
        }
        int[] all = {now.places.size(), now.bikes.size(), now.lorries.size(), at[0], at[1], at[2], at[3],
            known, now.hour};
        return what >= 0 && what < all.length ? all[what] : -1;
    }
}
