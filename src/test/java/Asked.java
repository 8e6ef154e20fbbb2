import java.util.ArrayList;
import java.util.List;

/** An object with all that was asked of it: no more than the calls that the document answers for. */
final class Asked {
    static final int MOST_CALLS = 512;

    private final WheelStands x = new WheelStands();
    final List<Call> calls = new ArrayList<>();
    final List<Long> answers = new ArrayList<>();

    /** A new object after these calls. */
    static Asked after(List<Call> calls) {
        Asked made = new Asked();
        for (Call call : calls) {
            made.ask(call);
        }
        return made;
    }

    long ask(Call call) {
        if (calls.size() == MOST_CALLS) {
            throw new IllegalStateException("the test asks more than " + MOST_CALLS + " calls of one object");
        }
        long answer = call.on(x);
        calls.add(call);
        answers.add(answer);
        return answer;
    }

    long ask(String name, int... n) {
        return ask(new Call(name, at(n, 0), at(n, 1), at(n, 2), at(n, 3)));
    }

    private static int at(int[] n, int i) {
        return i < n.length ? n[i] : 0;
    }
}
