/**
 * The range of each argument of promises 2 to 20: its two ends are taken, what lies just outside
 * and the least and the greatest int are refused, and what is refused has changed nothing.
 */
public final class RangesTest {
    private static final String INDEX = "IndexOutOfBoundsException";
    private static final String ARGUMENT = "IllegalArgumentException";
    private static final Check check = new Check();
    private static final Unchanged unchanged = new Unchanged(check);

    public static void main(String[] args) {
        itemOutside();
        itemInside();
        itineraryOutside();
        itineraryInside();
        cardsOutside();
        cardsInside();
        delayInside();
        stagesOutside();
        wrongKinds();
        finishInside();
        awardInside();
        tyresOutside();
        tyresInside();
        ranksOutside();
        ranksInside();
        championshipInside();
        itemsOfShorterAndLonger();
        check.end();
    }

    /** One argument at a time leaves its range, on both sides, while all others are in theirs. */
    private static void outside(Script state, String exception, int which, int least, int most, String name, int... good) {
        for (int wrong : new int[] {Integer.MIN_VALUE, least - 1, most + 1, Integer.MAX_VALUE}) {
            int[] args = good.clone();
            args[which] = wrong;
            unchanged.by(exception, state, name, args);
        }
    }

    private static void inside(Script state, String want, String name, int... args) {
        Call call = new Call(name, args);
        check.same(call + " answers", call.askedOf(state.played()), want);
    }

    private static void itemOutside() {
        check.promise("2 item");
        for (Script state : new Script[] {States.LAID, States.NEW, States.BEHIND_STAGE, States.FULL, States.UNDER_WAY}) {
            outside(state, ARGUMENT, 0, 0, 2, "item", 0, 0);
            outside(state, ARGUMENT, 1, 0, 2000, "item", RallyCard.LEG, 0);
            outside(state, ARGUMENT, 1, 0, 2000, "item", RallyCard.CONTROL, 0);
            outside(state, ARGUMENT, 1, 0, 0, "item", RallyCard.STAGE, 0);
            unchanged.by(ARGUMENT, state, "item", RallyCard.STAGE, 2000);
        }
    }

    private static void itemInside() {
        inside(States.NEW, "0", "item", RallyCard.LEG, 0);
        inside(States.NEW, "0", "item", RallyCard.LEG, 2000);
        inside(States.LAID, "7", "item", RallyCard.LEG, 0);
        inside(States.LAID, "7", "item", RallyCard.LEG, 2000);
        inside(States.LAID, "7", "item", RallyCard.CONTROL, 0);
        inside(States.LAID, "7", "item", RallyCard.CONTROL, 2000);
        inside(States.LAID, "7", "item", RallyCard.STAGE, 0);
    }

    private static void itineraryOutside() {
        check.promise("3 open");
        outside(States.LAID, INDEX, 0, 0, 6, "open", 0, 0);
        outside(States.LAID, ARGUMENT, 1, 0, 2, "open", 0, 0);
        outside(States.UNDER_WAY, INDEX, 0, 0, 6, "open", 4, 0);
        outside(States.UNDER_WAY, ARGUMENT, 1, 0, 2, "open", 4, 0);
        check.promise("4 starts");
        for (Script state : new Script[] {States.LAID, States.UNDER_WAY, States.BOTH_LEGS}) {
            outside(state, INDEX, 0, 0, 6, "starts", 0, 0);
            outside(state, ARGUMENT, 1, 0, 9, "starts", 0, 0);
            outside(state, ARGUMENT, 1, 0, 9, "starts", 4, 0);
        }
    }

    private static void itineraryInside() {
        check.promise("3 open");
        inside(States.LAID, "10", "open", 0, RallyCard.NUMBERS);
        inside(States.LAID, "10", "open", 0, RallyCard.RANK);
        inside(States.LAID, "10", "open", 0, RallyCard.REVERSED);
        inside(States.UNDER_WAY, "6", "open", 4, RallyCard.NUMBERS);
        inside(States.UNDER_WAY, "6", "open", 4, RallyCard.REVERSED);
        check.promise("4 starts");
        inside(States.UNDER_WAY, "0", "starts", 0, 0);
        inside(States.UNDER_WAY, "9", "starts", 0, 9);
        inside(States.BOTH_LEGS, "0", "starts", 4, 0);
        inside(States.BOTH_LEGS, "3", "starts", 4, 5);
        inside(States.BOTH_LEGS, "-1", "starts", 4, 6);
        inside(States.BOTH_LEGS, "-1", "starts", 4, 9);
    }

    private static void cardsOutside() {
        check.promise("5 due");
        outside(States.UNDER_WAY, INDEX, 0, 0, 9, "due", 0, 3);
        outside(States.UNDER_WAY, INDEX, 1, 0, 6, "due", 0, 3);
        check.promise("6 stamp");
        outside(States.UNDER_WAY, INDEX, 0, 0, 9, "stamp", 0, 3, 40);
        outside(States.UNDER_WAY, INDEX, 1, 0, 6, "stamp", 0, 3, 40);
        outside(States.UNDER_WAY, ARGUMENT, 2, 0, 2000, "stamp", 0, 3, 40);
        outside(States.UNDER_WAY, ARGUMENT, 2, 0, 2000, "stamp", 8, 0, 40);
        check.promise("7 delay");
        outside(States.UNDER_WAY, INDEX, 0, 0, 6, "delay", 3, 0, 5);
        outside(States.UNDER_WAY, INDEX, 1, 0, 9, "delay", 3, 0, 5);
        outside(States.UNDER_WAY, ARGUMENT, 2, 1, 60, "delay", 3, 0, 5);
        outside(States.BOTH_LEGS, ARGUMENT, 2, 1, 60, "delay", 6, 9, 5);
    }

    private static void cardsInside() {
        check.promise("5 due");
        inside(States.UNDER_WAY, "10", "due", 0, 0);
        inside(States.UNDER_WAY, "39", "due", 0, 3);
        inside(States.UNDER_WAY, "28", "due", 9, 0);
        inside(States.BOTH_LEGS, "213", "due", 0, 6);
        check.promise("6 stamp");
        inside(States.UNDER_WAY, "0", "stamp", 0, 3, 39);
        inside(States.UNDER_WAY, "23400", "stamp", 0, 3, 0);
        inside(States.UNDER_WAY, "196100", "stamp", 0, 3, 2000);
        inside(States.UNDER_WAY, "0", "stamp", 9, 3, 64);
        inside(States.UNDER_WAY, "0", "stamp", 8, 0, 26);
        inside(States.BOTH_LEGS, "0", "stamp", 3, 6, 211 + 3 + 10 + 4);
    }

    private static void delayInside() {
        check.promise("7 delay");
        for (int minutes : new int[] {1, 60}) {
            inside(States.UNDER_WAY, "10", "delay", 3, 0, minutes);
            inside(States.UNDER_WAY, "1", "delay", 3, 9, minutes);
            inside(States.BOTH_LEGS, "3", "delay", 6, 9, minutes);
            RallyCard x = States.UNDER_WAY.played();
            x.delay(3, 0, minutes);
            check.same("due", x.due(0, 3), 39 + minutes);
        }
    }

    private static void stagesOutside() {
        for (int flag = 0; flag <= 1; flag++) {
            check.promise("8 finish");
            outside(States.UNDER_WAY, INDEX, 0, 0, 9, "finish", 0, 2, flag, 20000);
            outside(States.UNDER_WAY, INDEX, 1, 0, 6, "finish", 0, 2, flag, 20000);
            outside(States.UNDER_WAY, ARGUMENT, 3, 0, 2000000, "finish", 0, 2, flag, 20000);
            outside(States.UNDER_WAY, ARGUMENT, 3, 0, 2000000, "finish", 8, 2, flag, 20000);
            check.promise("9 held");
            outside(States.UNDER_WAY, INDEX, 0, 0, 9, "held", 0, 2, flag);
            outside(States.UNDER_WAY, INDEX, 1, 0, 6, "held", 0, 2, flag);
        }
        check.promise("10 award");
        outside(States.UNDER_WAY, INDEX, 0, 0, 9, "award", 6, 2, RallyCard.NONE);
        outside(States.UNDER_WAY, INDEX, 1, 0, 6, "award", 6, 2, RallyCard.NONE);
        outside(States.UNDER_WAY, ARGUMENT, 2, -1, 99999, "award", 6, 2, 100);
        outside(States.UNDER_WAY, ARGUMENT, 2, -1, 99999, "award", 8, 2, 100);
        check.promise("11 time");
        outside(States.UNDER_WAY, INDEX, 0, 0, 9, "time", 0, 2);
        outside(States.UNDER_WAY, INDEX, 1, 0, 6, "time", 0, 2);
    }

    /** The items are 0 LEG, 1 CONTROL, 2 STAGE, 3 CONTROL, 4 LEG, 5 STAGE, 6 CONTROL. */
    private static void wrongKinds() {
        Script state = States.UNDER_WAY;
        for (int noLeg : new int[] {1, 2, 3, 5, 6}) {
            check.promise("3 open, the item is no LEG");
            unchanged.by(ARGUMENT, state, "open", noLeg, 0);
            check.promise("4 starts, the item is no LEG");
            unchanged.by(ARGUMENT, state, "starts", noLeg, 0);
        }
        for (int stage : new int[] {2, 5}) {
            check.promise("5 due, the item is a STAGE");
            unchanged.by(ARGUMENT, state, "due", 0, stage);
            check.promise("6 stamp, the item is a STAGE");
            unchanged.by(ARGUMENT, state, "stamp", 0, stage, 40);
        }
        for (int noControl : new int[] {0, 2, 4, 5}) {
            check.promise("7 delay, the item is no CONTROL");
            unchanged.by(ARGUMENT, state, "delay", noControl, 0, 5);
        }
        for (int noStage : new int[] {0, 1, 3, 4, 6}) {
            check.promise("8 to 11 finish, held, award, time, the item is no STAGE");
            unchanged.by(ARGUMENT, state, "finish", 0, noStage, 1, 200000);
            unchanged.by(ARGUMENT, state, "finish", 0, noStage, 0, 200000);
            unchanged.by(ARGUMENT, state, "held", 0, noStage, 1);
            unchanged.by(ARGUMENT, state, "held", 0, noStage, 0);
            unchanged.by(ARGUMENT, state, "award", 0, noStage, 100);
            unchanged.by(ARGUMENT, state, "award", 0, noStage, RallyCard.NONE);
            unchanged.by(ARGUMENT, state, "time", 0, noStage);
        }
    }

    private static void finishInside() {
        check.promise("8 finish");
        for (int isBeam = 0; isBeam <= 1; isBeam++) {
            RallyCard x = Rallies.oneStage();
            Rallies.stampInTime(x, 0, 0, 1);
            Rallies.stampInTime(x, 9, 0, 1);
            x.finish(0, 2, isBeam == 1, 600 * 18);
            check.same("at its start", x.time(0, 2), 0);
            x.finish(9, 2, isBeam == 1, 600 * 36 + 1);
            check.same("a tenth behind its start", x.time(9, 2), 1);
            x.finish(0, 2, isBeam == 1, 2000000);
            check.same("the latest one", x.time(0, 2), 2000000 - 600 * 18);
        }
        check.promise("9 held, 11 time");
        inside(States.UNDER_WAY, "1930", "held", 0, 2, 1);
        inside(States.UNDER_WAY, "1500", "held", 0, 2, 0);
        inside(States.UNDER_WAY, "1500", "held", 9, 2, 1);
        inside(States.UNDER_WAY, "1500", "time", 0, 2);
        inside(States.UNDER_WAY, "1930", "time", 9, 2);
        inside(States.UNDER_WAY, "-1", "time", 0, 5);
    }

    private static void awardInside() {
        check.promise("10 award");
        inside(States.UNDER_WAY, "-1", "award", 6, 2, RallyCard.NONE);
        inside(States.UNDER_WAY, "0", "award", 6, 2, 0);
        inside(States.UNDER_WAY, "1", "award", 6, 2, 1);
        inside(States.UNDER_WAY, "99999", "award", 6, 2, 99999);
        inside(States.UNDER_WAY, "1500", "award", 0, 2, RallyCard.NONE);
        inside(States.UNDER_WAY, "0", "award", 0, 2, 0);
        inside(States.UNDER_WAY, "99999", "award", 9, 2, 99999);
    }

    private static void tyresOutside() {
        for (Script state : new Script[] {States.NEW, States.UNDER_WAY}) {
            check.promise("12 allocate");
            outside(state, INDEX, 0, 0, 9, "allocate", 0, 5);
            outside(state, ARGUMENT, 1, 0, 99, "allocate", 0, 5);
            outside(state, ARGUMENT, 1, 0, 99, "allocate", 7, 5);
            check.promise("13 seen");
            outside(state, INDEX, 0, 0, 9, "seen", 0, 5);
            outside(state, ARGUMENT, 1, 0, 99, "seen", 0, 5);
            check.promise("14 retire");
            outside(state, INDEX, 0, 0, 9, "retire", 0, 0);
            outside(state, INDEX, 0, 0, 9, "retire", 0, 1);
        }
    }

    private static void tyresInside() {
        check.promise("12 allocate");
        inside(States.NEW, "1", "allocate", 0, 0);
        inside(States.NEW, "1", "allocate", 0, 99);
        inside(States.NEW, "1", "allocate", 9, 0);
        inside(States.NEW, "1", "allocate", 9, 99);
        check.promise("13 seen");
        inside(States.NEW, "600", "seen", 0, 0);
        inside(States.NEW, "600", "seen", 0, 99);
        inside(States.NEW, "600", "seen", 9, 0);
        inside(States.NEW, "600", "seen", 9, 99);
        check.promise("14 retire");
        for (int car : new int[] {0, 9}) {
            RallyCard x = new RallyCard();
            x.retire(car, false);
            check.same("retired", x.car(car, 3), 1);
            check.same("the other one", x.car(9 - car, 3), 0);
        }
    }

    private static void ranksOutside() {
        for (Script state : new Script[] {States.NEW, States.UNDER_WAY, States.ONE_OVER, States.SIX_OVER}) {
            check.promise("15 car");
            outside(state, INDEX, 0, 0, 9, "car", 0, 0);
            outside(state, ARGUMENT, 1, 0, 5, "car", 0, 0);
            check.promise("16 totalAnew");
            outside(state, INDEX, 0, 0, 9, "totalAnew", 0);
            check.promise("17 ranked");
            outside(state, ARGUMENT, 0, 0, 9, "ranked", 0);
            check.promise("19 points");
            outside(state, INDEX, 0, 0, 9, "points", 0);
            check.promise("20 table");
            outside(state, ARGUMENT, 0, 0, 9, "table", 0);
        }
    }

    /** Cars 0, 6, 5, 9 are a minute late each, their times 1500, 1700, 1715 (notional), 1930; 1 has none. */
    private static void ranksInside() {
        check.promise("15 car");
        int[] first = {100, 1, 0, 0, 1600, 0};
        int[] last = {100, 1, 0, 0, 2030, 3};
        for (int what = 0; what <= 5; what++) {
            inside(States.UNDER_WAY, "" + first[what], "car", 0, what);
            inside(States.UNDER_WAY, "" + last[what], "car", 9, what);
        }
        check.promise("16 totalAnew");
        inside(States.UNDER_WAY, "1600", "totalAnew", 0);
        inside(States.UNDER_WAY, "2030", "totalAnew", 9);
        check.promise("17 ranked");
        int[] ranked = {0, 6, 5, 9, 1, -1, -1, -1, -1, -1};
        for (int place = 0; place <= 9; place++) {
            inside(States.UNDER_WAY, "" + ranked[place], "ranked", place);
        }
    }

    private static void championshipInside() {
        check.promise("19 points");
        inside(States.ONE_OVER, "25", "points", 0);
        inside(States.ONE_OVER, "12", "points", 9);
        check.promise("20 table");
        int[] table = {0, 6, 5, 9, 1, 2, 3, 4, 7, 8};
        for (int place = 0; place <= 9; place++) {
            inside(States.ONE_OVER, "" + table[place], "table", place);
            inside(States.NEW, "" + place, "table", place);
        }
    }

    /** There are just the items that were added: none, one, seven, twenty. */
    private static void itemsOfShorterAndLonger() {
        check.promise("5 due, there is no such item");
        Script one = new Script().call("item", 0, 0);
        for (Script state : new Script[] {States.NEW, States.ONE_OVER, one, States.LAID, States.FULL}) {
            int size = state == States.LAID ? 7 : state == States.FULL ? 20 : state == one ? 1 : 0;
            outside(state, INDEX, 1, 0, size - 1, "due", 0, 0);
            outside(state, INDEX, 0, 0, size - 1, "starts", 0, 0);
            outside(state, INDEX, 0, 0, size - 1, "open", 0, 0);
            outside(state, INDEX, 1, 0, size - 1, "stamp", 0, 0, 5);
            outside(state, INDEX, 0, 0, size - 1, "delay", 0, 0, 5);
            outside(state, INDEX, 1, 0, size - 1, "finish", 0, 0, 1, 5);
            outside(state, INDEX, 1, 0, size - 1, "held", 0, 0, 1);
            outside(state, INDEX, 1, 0, size - 1, "award", 0, 0, 5);
            outside(state, INDEX, 1, 0, size - 1, "time", 0, 0);
            if (size > 0) {
                inside(state, "-1", "due", 0, 0);
                inside(state, "-1", "starts", 0, 0);
                inside(state, "10", "open", 0, 0);
            }
        }
    }
}
