import java.util.ArrayList;
import java.util.List;

/** Calls in a row, to be made on new objects as often as a test needs them. */
final class Script {
    /** What an object answers to later calls is free. */
    static final int MOST_CALLS = 512;

    private final List<Call> calls = new ArrayList<>();

    static Script of(Script... parts) {
        Script all = new Script();
        for (Script part : parts) {
            all.calls.addAll(part.calls);
        }
        return all;
    }

    Script call(String name, int... args) {
        calls.add(new Call(name, args));
        return this;
    }

    int size() {
        return calls.size();
    }

    /** A new object after all these calls; none of them may be refused, or the test is wrong. */
    RallyCard played() {
        RallyCard x = new RallyCard();
        for (Call call : calls) {
            String answer = call.askedOf(x);
            if (answer.endsWith("Exception")) {
                throw new UnsupportedOperationException(call + " answered " + answer);
            }
        }
        return x;
    }

    /** What an object answers to these calls, each with its call. */
    List<String> answersOf(RallyCard x) {
        List<String> answers = new ArrayList<>();
        for (Call call : calls) {
            answers.add(call + " = " + call.askedOf(x));
        }
        return answers;
    }
}
