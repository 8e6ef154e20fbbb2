import java.util.ArrayList;
import java.util.List;

/** A run of calls on a new object; after a refused one all that can be seen must be as if it had not been. */
final class Run {
    private final Asked x = new Asked();
    /** The calls but the refused ones. */
    private final List<Call> granted = new ArrayList<>();
    /** What is to be seen after the granted ones; null where that is not known yet. */
    private List<Asked> seen;

    /** Calls that must be granted, each ended by a semicolon. */
    Run(String calls) {
        does(calls);
    }

    /** A new object with so many stands of so many docks. */
    static Run ofStands(int stands, int docks) {
        return new Run(("stand(" + docks + ");").repeat(stands));
    }

    Run does(String calls) {
        for (String text : calls.split(";")) {
            if (!text.isBlank()) {
                Call call = Call.of(text);
                long answer = grant(call);
                if (call.isRefusal(answer)) {
                    Due.yes(told(null) + "and the last, which answered " + answer + ", was granted", false);
                }
            }
        }
        return this;
    }

    Run due(String text, long due) {
        Call call = Call.of(text);
        Due.is(told(call), grant(call), due);
        return this;
    }

    /** Answers of one call for the numbers 0, 1, 2 .., which stand where the text has a #. */
    Run dues(String text, long... due) {
        for (int i = 0; i < due.length; i++) {
            due(text.replace("#", "" + i), due[i]);
        }
        return this;
    }

    Run refused(String text, long due) {
        Call call = Call.of(text);
        String told = told(call);
        Due.is(told, x.ask(call), due);
        if (seen == null) {
            seen = Looks.all(granted);
        }
        Due.same(told + ", and then", Looks.difference(Looks.all(x.calls), x.calls.size(), seen, granted.size()));
        return this;
    }

    /** Several calls that are refused with the same answer, set apart by semicolons. */
    Run refusedAll(long due, String texts) {
        for (String text : texts.split(";")) {
            refused(text, due);
        }
        return this;
    }

    /** All that is there is as it is with the other one (but for the round at hand and the images). */
    Run sameAs(Run other) {
        Due.same(told(null) + ", and then", Looks.difference(Looks.now(x.calls), x.calls.size(),
            Looks.now(other.x.calls), other.x.calls.size()));
        return this;
    }

    boolean looksLike(Run other) {
        return Looks.difference(Looks.all(x.calls), x.calls.size(),
            Looks.all(other.x.calls), other.x.calls.size()) == null;
    }

    int calls() {
        return x.calls.size();
    }

    /** Another object after the same calls. */
    Asked again() {
        return Asked.after(x.calls);
    }

    private long grant(Call call) {
        granted.add(call);
        seen = null;
        return x.ask(call);
    }

    private String told(Call last) {
        StringBuilder all = new StringBuilder();
        for (Call call : x.calls) {
            all.append(call).append("; ");
        }
        return all.append(last == null ? "" : last).toString();
    }
}
