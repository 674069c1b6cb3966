import java.util.ArrayList;
import java.util.List;

/**
 * Of several exceptions it is the first one of the throws clause: every mixture of right and wrong
 * arguments, also where the state refuses the call.
 */
public final class ExceptionOrderTest {
    private static final String[] DUE = {
        "IndexOutOfBoundsException", "IllegalArgumentException", "IllegalStateException", "an answer"};
    private static final int INDEX = 0;
    private static final int ARGUMENT = 1;
    private static final int STATE = 2;
    private static final int RIGHT = 3;
    private static final Check check = new Check();

    /** A value of an argument, and what is due if all others are right. */
    private record Option(int value, int due) {
    }

    public static void main(String[] args) {
        itinerary();
        cards();
        stages();
        tyresAndRanks();
        championship();
        check.end();
    }

    private static void itinerary() {
        check.promise("2 item");
        mix(States.LAID, "item", values(RIGHT, 0, 1).and(ARGUMENT, -1, 3), values(RIGHT, 0, 2000).and(ARGUMENT, -1, 2001));
        mix(States.UNDER_WAY, "item", values(STATE, 0, 1).and(ARGUMENT, -1, 3), values(RIGHT, 0, 2000).and(ARGUMENT, -1, 2001));
        mix(States.FULL, "item", values(STATE, 2).and(ARGUMENT, 3), values(RIGHT, 0).and(ARGUMENT, -1, 1));
        mix(States.NEW, "item", values(STATE, 2).and(ARGUMENT, 3), values(RIGHT, 0).and(ARGUMENT, -1, 1));
        mix(States.NEW, "item", values(STATE, 1).and(RIGHT, 0), values(RIGHT, 5).and(ARGUMENT, -1, 2001));
        mix(States.BEHIND_STAGE, "item", values(STATE, 0).and(RIGHT, 1), values(RIGHT, 5).and(ARGUMENT, -1, 2001));
        mix(States.BEHIND_STAGE, "item", values(STATE, 2).and(ARGUMENT, 3), values(RIGHT, 0).and(ARGUMENT, -1, 1));
        check.promise("3 open");
        Options legs = values(RIGHT, 4).and(STATE, 0).and(ARGUMENT, 1, 2).and(INDEX, -1, 7, 20);
        mix(States.UNDER_WAY, "open", legs, values(RIGHT, 0, 2).and(ARGUMENT, -1, 3));
        Options later = values(RIGHT, 0).and(STATE, 4).and(ARGUMENT, 3, 5).and(INDEX, -1, 7, 20);
        mix(States.LAID, "open", later, values(RIGHT, 0, 2).and(ARGUMENT, -1, 3));
        check.promise("4 starts");
        Options some = values(RIGHT, 0, 4).and(ARGUMENT, 1, 2).and(INDEX, -1, 7, 20);
        mix(States.UNDER_WAY, "starts", some, values(RIGHT, 0, 9).and(ARGUMENT, -1, 10));
    }

    /** Car 0 can be stamped at 3 alone, car 8 at 0 alone, 1 and 2 are a CONTROL and a STAGE. */
    private static void cards() {
        check.promise("5 due");
        Options cars = values(RIGHT, 0, 8).and(INDEX, -1, 10);
        Options controls = values(RIGHT, 0, 3, 4).and(ARGUMENT, 2, 5).and(INDEX, -1, 7, 20);
        mix(States.UNDER_WAY, "due", cars, controls);
        check.promise("6 stamp");
        Options minutes = values(RIGHT, 0, 2000).and(ARGUMENT, -1, 2001);
        Options atThree = values(RIGHT, 3).and(STATE, 0, 1, 4, 6).and(ARGUMENT, 2, 5).and(INDEX, -1, 7);
        mix(States.UNDER_WAY, "stamp", values(RIGHT, 0).and(INDEX, -1, 10), atThree, minutes);
        Options notThere = values(RIGHT, 3).and(ARGUMENT, 2, 5).and(INDEX, -1, 7);
        mix(States.UNDER_WAY, "stamp", values(STATE, 1, 2, 3, 4, 7, 8).and(INDEX, -1, 10), notThere, minutes);
        check.promise("7 delay");
        Options lengths = values(RIGHT, 1, 60).and(ARGUMENT, 0, 61);
        Options open = values(RIGHT, 3).and(STATE, 6).and(ARGUMENT, 0, 2, 4).and(INDEX, -1, 7);
        mix(States.UNDER_WAY, "delay", open, values(RIGHT, 0, 9).and(INDEX, -1, 10), lengths);
        Options second = values(RIGHT, 6).and(ARGUMENT, 0, 2, 4).and(INDEX, -1, 7);
        mix(States.BOTH_LEGS, "delay", second, values(RIGHT, 9).and(STATE, 2, 4, 8).and(INDEX, -1, 10), lengths);
    }

    private static void stages() {
        Options cars = values(RIGHT, 0).and(STATE, 1, 8).and(INDEX, -1, 10);
        Options stage = values(RIGHT, 2).and(ARGUMENT, 0, 1, 3).and(INDEX, -1, 7);
        Options driven = values(RIGHT, 0, 9).and(INDEX, -1, 10);
        Options closed = values(STATE, 5).and(RIGHT, 2).and(ARGUMENT, 0, 1, 3).and(INDEX, -1, 7);
        Options flags = values(RIGHT, 0, 1);
        check.promise("8 finish");
        Options tenths = values(RIGHT, 2000000).and(STATE, 0, 600 * 19 - 1).and(ARGUMENT, -1, 2000001);
        mix(States.UNDER_WAY, "finish", cars, stage, flags, tenths);
        mix(States.UNDER_WAY, "finish", driven, closed, flags, tenths);
        check.promise("9 held");
        mix(States.UNDER_WAY, "held", cars, stage, flags);
        mix(States.UNDER_WAY, "held", driven, closed, flags);
        check.promise("10 award");
        Options awards = values(RIGHT, RallyCard.NONE, 0, 99999).and(ARGUMENT, -2, 100000);
        mix(States.UNDER_WAY, "award", cars, stage, awards);
        mix(States.UNDER_WAY, "award", driven, closed, awards);
        check.promise("11 time");
        Options any = values(RIGHT, 2, 5).and(ARGUMENT, 0, 1, 3, 4).and(INDEX, -1, 7);
        mix(States.UNDER_WAY, "time", values(RIGHT, 0, 8).and(INDEX, -1, 10), any);
    }

    private static void tyresAndRanks() {
        Options barcodes = values(RIGHT, 5, 98).and(ARGUMENT, -1, 100);
        check.promise("12 allocate");
        mix(States.UNDER_WAY, "allocate", values(RIGHT, 0).and(STATE, 7).and(INDEX, -1, 10), barcodes);
        Script one = new Script().call("allocate", 0, 5);
        mix(one, "allocate", values(RIGHT, 0).and(INDEX, -1, 10), values(STATE, 5).and(RIGHT, 0).and(ARGUMENT, -1, 100));
        check.promise("13 seen");
        mix(States.UNDER_WAY, "seen", values(RIGHT, 0, 7).and(INDEX, -1, 10), barcodes);
        check.promise("14 retire");
        mix(States.UNDER_WAY, "retire", values(RIGHT, 0).and(STATE, 2, 3, 4).and(INDEX, -1, 10), values(RIGHT, 0, 1));
        check.promise("15 car");
        mix(States.UNDER_WAY, "car", values(RIGHT, 0, 4).and(INDEX, -1, 10), values(RIGHT, 0, 5).and(ARGUMENT, -1, 6));
        check.promise("16 totalAnew");
        mix(States.UNDER_WAY, "totalAnew", values(RIGHT, 0, 9).and(INDEX, -1, 10));
        check.promise("17 ranked");
        mix(States.UNDER_WAY, "ranked", values(RIGHT, 0, 9).and(ARGUMENT, -1, 10));
    }

    /** Two reasons for the same exception are that exception. */
    private static void championship() {
        check.promise("18 close");
        check.same("six are over and none is open", new Call("close").askedOf(States.SIX_OVER.played()), DUE[STATE]);
        check.promise("19 points");
        mix(States.SIX_OVER, "points", values(RIGHT, 0, 9).and(INDEX, -1, 10));
        check.promise("20 table");
        mix(States.SIX_OVER, "table", values(RIGHT, 0, 9).and(ARGUMENT, -1, 10));
    }

    private static Options values(int due, int... some) {
        return new Options().and(due, some);
    }

    /** The values of an argument that are tried. */
    private static final class Options {
        private final List<Option> all = new ArrayList<>();

        Options and(int due, int... values) {
            for (int value : values) {
                all.add(new Option(value, due));
            }
            return this;
        }
    }

    private static void mix(Script state, String name, Options... arguments) {
        mix(state, name, arguments, new int[0], RIGHT);
    }

    /** Takes each value of the next argument behind those that are chosen. */
    private static void mix(Script state, String name, Options[] arguments, int[] chosen, int due) {
        if (chosen.length == arguments.length) {
            Call call = new Call(name, chosen);
            String answer = call.askedOf(state.played());
            check.same(call + " answers", answer.endsWith("Exception") ? answer : DUE[RIGHT], DUE[due]);
            return;
        }
        for (Option option : arguments[chosen.length].all) {
            int[] more = java.util.Arrays.copyOf(chosen, chosen.length + 1);
            more[chosen.length] = option.value;
            mix(state, name, arguments, more, Math.min(due, option.due));
        }
    }
}
