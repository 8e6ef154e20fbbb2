/** A call, written as it stands in Java: "hire(0, 2, NONE)"; LEAST and MOST are the ends of int. */
record Call(String name, int a, int b, int c, int d) {
    static final String[] NAMES = {
        "stand", "length", "next", "tear", "block", "dock", "tell", "put", "charge", "wheel", "fault",
        "test", "mend", "doubt", "hire", "end", "hour", "cart", "drive", "pick", "fetch", "drop", "load",
        "demand", "runs", "shortage", "want", "plan", "round", "carry", "image", "again", "count"};

    static Call of(String text) {
        int open = text.indexOf('(');
        String[] words = text.substring(open + 1, text.indexOf(')')).split(",");
        int[] n = new int[4];
        for (int i = 0; i < words.length; i++) {
            n[i] = number(words[i].trim());
        }
        return new Call(text.substring(0, open).trim(), n[0], n[1], n[2], n[3]);
    }

    private static int number(String word) {
        switch (word) {
            case "": case "false": return 0;
            case "true": return 1;
            case "NONE": return WheelStands.NONE;
            case "LEAST": return Integer.MIN_VALUE;
            case "MOST": return Integer.MAX_VALUE;
            default: return Integer.parseInt(word);
        }
    }

    boolean isYesOrNo() {
        switch (name) {
            case "length": case "tear": case "block": case "fault": case "mend": case "fetch": case "demand":
            case "want": case "image": case "again": return true;
            default: return false;
        }
    }

    /** Whether this answer says that the call was refused. */
    boolean isRefusal(long answer) {
        return answer < 0 || answer == 0 && isYesOrNo();
    }

    /** What the object answers; of true and false 1 and 0. */
    long on(WheelStands x) {
        switch (name) {
            case "stand": return x.stand(a);
            case "length": return x.length(a, b, c) ? 1 : 0;
            case "next": return x.next(a, b);
            case "tear": return x.tear(a, b) ? 1 : 0;
            case "block": return x.block(a, b, c == 1) ? 1 : 0;
            case "dock": return x.dock(a, b);
            case "tell": return x.tell(a, b);
            case "put": return x.put(a, b, c);
            case "charge": return x.charge(a, b);
            case "wheel": return x.wheel(a, b);
            case "fault": return x.fault(a) ? 1 : 0;
            case "test": return x.test(a);
            case "mend": return x.mend(a) ? 1 : 0;
            case "doubt": return x.doubt(a, b);
            case "hire": return x.hire(a, b, c);
            case "end": return x.end(a, b);
            case "hour": return x.hour();
            case "cart": return x.cart(a, b);
            case "drive": return x.drive(a, b);
            case "pick": return x.pick(a, b);
            case "fetch": return x.fetch(a, b) ? 1 : 0;
            case "drop": return x.drop(a);
            case "load": return x.load(a, b);
            case "demand": return x.demand(a, b, c, d) ? 1 : 0;
            case "runs": return x.runs(a, b, c);
            case "shortage": return x.shortage(a);
            case "want": return x.want(a, b) ? 1 : 0;
            case "plan": return x.plan(a);
            case "round": return x.round(a);
            case "carry": return x.carry(a);
            case "image": return x.image(a) ? 1 : 0;
            case "again": return x.again(a) ? 1 : 0;
            case "count": return x.count(a);
            default: throw new IllegalArgumentException("no such call: " + name);
        }
    }

    private int arguments() {
        switch (name) {
            case "hour": return 0;
            case "stand": case "fault": case "test": case "mend": case "drop": case "shortage": case "plan":
            case "round": case "carry": case "image": case "again": case "count": return 1;
            case "length": case "block": case "put": case "hire": case "runs": return 3;
            case "demand": return 4;
            default: return 2;
        }
    }

    @Override
    public String toString() {
        int[] all = {a, b, c, d};
        StringBuilder text = new StringBuilder(name).append('(');
        for (int i = 0; i < arguments(); i++) {
            text.append(i > 0 ? ", " : "").append(all[i]);
        }
        return text.append(')').toString();
    }
}
