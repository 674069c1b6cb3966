import java.util.HashMap;
import java.util.List;
import java.util.Map;

/** Looks whether a call that throws has changed anything: now, or in what can still be done. */
final class Unchanged {
    private static final Script LOOK = look();
    private static final Script GO_ON = Script.of(goOn(), LOOK);

    private final Check check;
    /** What is answered to the same questions without the refused call. */
    private final Map<Script, Map<Script, List<String>>> known = new HashMap<>();

    Unchanged(Check check) {
        this.check = check;
    }

    /** The call is made on an object in a state, and the very exception is due. */
    void by(String exception, Script state, String name, int... args) {
        Call call = new Call(name, args);
        check.same(call + " answers", call.askedOf(state.played()), exception);
        for (Script questions : List.of(LOOK, GO_ON)) {
            if (state.size() + 1 + questions.size() > Script.MOST_CALLS) {
                throw new UnsupportedOperationException("too many calls for one object");
            }
            RallyCard x = state.played();
            call.askedOf(x);
            compare(call, questions.answersOf(x), without(state, questions));
        }
    }

    private List<String> without(Script state, Script questions) {
        return known.computeIfAbsent(state, s -> new HashMap<>())
                .computeIfAbsent(questions, q -> q.answersOf(state.played()));
    }

    private void compare(Call call, List<String> got, List<String> want) {
        int at = 0;
        while (at < got.size() - 1 && got.get(at).equals(want.get(at))) {
            at++;
        }
        check.same("after " + call, got.get(at), want.get(at));
    }

    private static Script look() {
        Script look = new Script();
        for (int n = 0; n < 10; n++) {
            for (int what = 0; what < 6; what++) {
                look.call("car", n, what);
            }
            for (int control : new int[] {0, 1, 3, 4, 6}) {
                look.call("due", n, control);
            }
            look.call("totalAnew", n).call("ranked", n).call("points", n).call("table", n);
            look.call("time", n, 2).call("time", n, 5).call("starts", 0, n).call("starts", 4, n);
        }
        return look.call("due", 0, 2).call("due", 0, 7).call("due", 0, 19);
    }

    /** Calls by which what is hidden shows; where one is refused, it is so on both objects. */
    private static Script goOn() {
        Script on = new Script();
        on.call("item", 1, 7).call("item", 0, 90).call("item", 2, 0).call("open", 0, 2);
        for (int car = 0; car < 10; car++) {
            on.call("stamp", car, 0, 12 + 2 * car).call("stamp", car, 1, 18 + 2 * car);
        }
        for (int car = 0; car < 10; car++) {
            on.call("due", car, 3).call("time", car, 2);
        }
        on.call("finish", 1, 2, 0, 600 * 23 + 1750).call("finish", 8, 2, 1, 600 * 37 + 1600).call("held", 7, 2, 1);
        on.call("award", 6, 2, -1).call("held", 5, 2, 0).call("delay", 3, 1, 2).call("delay", 6, 0, 3);
        on.call("allocate", 0, 5).call("allocate", 3, 50).call("seen", 7, 10).call("seen", 7, 16).call("seen", 7, 99);
        on.call("seen", 0, 0).call("seen", 0, 99).call("seen", 9, 0).call("seen", 9, 99);
        for (int car = 0; car < 10; car++) {
            on.call("stamp", car, 3, 45 + 2 * car);
        }
        on.call("retire", 1, 1).call("retire", 8, 0).call("open", 4, 1);
        for (int car = 0; car < 10; car++) {
            on.call("stamp", car, 4, 206 + car).call("finish", car, 5, 1, 600 * 220 + 30 * car);
            on.call("stamp", car, 6, 225 + car).call("time", car, 5).call("car", car, 4).call("car", car, 5);
        }
        return on.call("close").call("item", 1, 0).call("item", 0, 0);
    }
}
