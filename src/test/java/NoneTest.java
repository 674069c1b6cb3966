/** Where an answer is NONE, and where it just is not: orders, due minutes, times, places. */
public final class NoneTest {
    private static final int NONE = RallyCard.NONE;
    private static final Check check = new Check();

    public static void main(String[] args) {
        startsOfClosedLeg();
        startsOfOrders();
        dueAtClosedLeg();
        dueOutsideOrder();
        dueWithoutStampAhead();
        dueWhereStamped();
        dueOfRetired();
        dueOfReturned();
        dueOfOut();
        timeWithoutFinish();
        timeOfZero();
        heldWithoutNeighbours();
        awardTakenBack();
        placesBeyondTheRanks();
        placeOfUnranked();
        missedStageWithoutTimes();
        check.end();
    }

    private static void startsOfClosedLeg() {
        check.promise("4 starts, it is not open");
        RallyCard x = States.LAID.played();
        RallyCard y = States.UNDER_WAY.played();
        for (int place = 0; place < 10; place++) {
            check.same("the first leg", x.starts(0, place), NONE);
            check.same("the later leg", x.starts(4, place), NONE);
            check.same("the later leg when the first one is open", y.starts(4, place), NONE);
            check.same("the first one", y.starts(0, place), place);
        }
    }

    private static void startsOfOrders() {
        check.promise("4 starts, there are not so many");
        RallyCard x = States.BOTH_LEGS.played();
        int[] order = {0, 6, 5, 9, 1, 3, NONE, NONE, NONE, NONE};
        for (int place = 0; place < 10; place++) {
            check.same("place " + place, x.starts(4, place), order[place]);
        }
        x.retire(0, false);
        check.same("a retired one keeps its place", x.starts(4, 0), 0);
    }

    private static void dueAtClosedLeg() {
        check.promise("5 due, the LEG is not open");
        RallyCard x = States.LAID.played();
        RallyCard y = States.UNDER_WAY.played();
        for (int car = 0; car < 10; car++) {
            check.same("at the first leg", x.due(car, 0), NONE);
            check.same("behind the first leg", x.due(car, 1), NONE);
            check.same("at the later leg", y.due(car, 4), NONE);
            check.same("behind the later leg", y.due(car, 6), NONE);
        }
    }

    private static void dueOutsideOrder() {
        check.promise("5 due, it is not in the order");
        RallyCard x = States.BOTH_LEGS.played();
        check.same("in it", x.due(9, 4), 206);
        check.same("never stamped", x.due(8, 4), NONE);
        check.same("still due at the first leg", x.due(8, 0), 26);
        x.stamp(8, 0, 26);
        check.same("stamped at the first leg when the later one was open", x.due(8, 4), NONE);
        check.same("due in the first leg", x.due(8, 1), 31);
    }

    private static void dueWithoutStampAhead() {
        check.promise("5 due, it was not stamped ahead");
        RallyCard x = Rallies.oneStage();
        check.same("behind the leg", x.due(0, 1), NONE);
        check.same("behind a stage", x.due(0, 3), NONE);
        x.stamp(0, 0, 10);
        check.same("behind the leg, stamped", x.due(0, 1), 15);
        check.same("behind a stage, stamped at the leg alone", x.due(0, 3), NONE);
        check.same("another car", x.due(1, 1), NONE);
        x.delay(3, 0, 5);
        check.same("a delay is no stamp", x.due(0, 3), NONE);
        x.stamp(0, 1, 0);
        check.same("stamped at minute 0", x.due(0, 3), 28);
        RallyCard y = Rallies.twoLegs();
        y.open(0, RallyCard.NUMBERS);
        check.same("a stage right behind the leg", y.due(0, 2), NONE);
        y.stamp(0, 0, 0);
        check.same("the leg stamped at minute 0", y.due(0, 2), 13);
        check.same("in the later leg", y.due(0, 5), NONE);
    }

    private static void dueWhereStamped() {
        check.promise("5 due, also if it was stamped there");
        RallyCard x = States.BOTH_LEGS.played();
        check.same("at the first leg", x.due(0, 0), 10);
        check.same("at a control", x.due(0, 1), 15);
        check.same("at the later leg", x.due(0, 4), 200);
        check.same("behind a stage", x.due(0, 6), 213);
        check.same("late by a minute", x.due(9, 1), 33);
        x.delay(6, 0, 60);
        check.same("no delay where it was stamped", x.due(0, 6), 213);
    }

    private static void dueOfRetired() {
        check.promise("5 due, it is retired");
        RallyCard x = States.UNDER_WAY.played();
        for (int control : new int[] {0, 1, 3}) {
            check.same("for good, at " + control, x.due(2, control), NONE);
            check.same("to start again, at " + control, x.due(3, control), NONE);
        }
        check.same("ahead of that", x.due(8, 0), 26);
        x.retire(8, true);
        check.same("not stamped at all", x.due(8, 0), NONE);
    }

    private static void dueOfReturned() {
        check.promise("5 due, it has started again");
        RallyCard x = States.BOTH_LEGS.played();
        check.same("at the later leg", x.due(3, 4), 210);
        check.same("in the later leg", x.due(3, 6), 228);
        check.same("where it was stamped before", x.due(3, 1), 21);
        check.same("where it was not", x.due(3, 3), 22 + 3 + 20);
        x.retire(3, true);
        check.same("retired again", x.due(3, 6), NONE);
        check.same("retired again, at the later leg", x.due(3, 4), NONE);
    }

    private static void dueOfOut() {
        check.promise("5 due, it is out");
        RallyCard x = States.BOTH_LEGS.played();
        for (int control : new int[] {0, 1, 3, 4, 6}) {
            check.same("at " + control, x.due(4, control), NONE);
        }
        check.same("in the order", x.due(9, 4), 206);
        x.stamp(9, 3, 200);
        check.same("out by the first leg", x.due(9, 4), NONE);
    }

    private static void timeWithoutFinish() {
        check.promise("11 time, without one");
        RallyCard x = States.LAID.played();
        RallyCard y = States.UNDER_WAY.played();
        for (int car = 0; car < 10; car++) {
            check.same("not open", x.time(car, 2), NONE);
            check.same("the later leg is not open", y.time(car, 5), NONE);
        }
        check.same("not stamped ahead", y.time(1, 2), NONE);
        check.same("stamped at none", y.time(8, 2), NONE);
        check.same("stamped ahead without a finish", y.time(2, 2), NONE);
        y.finish(2, 2, false, 600 * 40);
        check.same("of a finish that is told", y.time(2, 2), 600 * (40 - 23) + 30);
    }

    private static void timeOfZero() {
        check.promise("11 time, 0 is one");
        RallyCard x = Rallies.twoLegs();
        x.open(0, RallyCard.NUMBERS);
        Rallies.drive(x, 0, 0);
        Rallies.stampInTime(x, 1, 0);
        check.same("by the beam", x.time(0, 1), 0);
        check.same("it is the best of all", x.car(1, 4), 6000);
        check.same("a notional time by it", x.held(1, 1, true), 0);
        check.same("an award of it", x.award(1, 1, 0), 0);
        check.same("both are none less", x.car(1, 4), 0);
        check.same("ranked by numbers then", x.ranked(1), 1);
    }

    private static void heldWithoutNeighbours() {
        check.promise("9 held, none without both");
        RallyCard x = Rallies.twoLegs();
        x.open(0, RallyCard.NUMBERS);
        Rallies.drive(x, 4, 700);
        check.same("alone, with an own time", x.held(4, 1, true), NONE);
        check.same("time", x.time(4, 1), NONE);
        Rallies.stampInTime(x, 3, 0);
        Rallies.stampInTime(x, 5, 0);
        check.same("neighbours without a time", x.time(4, 1), NONE);
        x.award(3, 1, 100);
        check.same("a neighbour's award is no own time", x.time(4, 1), NONE);
        Rallies.stampInTime(x, 6, 0);
        x.finish(6, 1, true, 600 * 15 + 800);
        x.held(6, 1, true);
        check.same("a neighbour that was held up", x.time(4, 1), NONE);
        check.same("nor has that one", x.time(6, 1), NONE);
        check.same("one of both", x.held(6, 1, false), 800);
        check.same("by it", x.time(4, 1), 800);
        check.same("without an own time", x.held(5, 1, true), 800);
        check.same("none again", x.held(5, 1, false), NONE);
        check.same("own again", x.held(4, 1, false), 700);
    }

    private static void awardTakenBack() {
        check.promise("10 award, taken back");
        RallyCard x = States.UNDER_WAY.played();
        check.same("without a time", x.award(6, 2, NONE), NONE);
        check.same("once more", x.award(6, 2, NONE), NONE);
        check.same("none was awarded", x.award(2, 2, NONE), NONE);
        check.same("with an own time", x.award(0, 2, NONE), 1500);
        check.same("with a notional time", x.award(5, 2, NONE), 1715);
    }

    private static void placesBeyondTheRanks() {
        check.promise("17 ranked, there are not so many");
        RallyCard x = States.UNDER_WAY.played();
        int[] ranks = {0, 6, 5, 9, 1, NONE, NONE, NONE, NONE, NONE};
        for (int place = 0; place < 10; place++) {
            check.same("place " + place, x.ranked(place), ranks[place]);
        }
        x.stamp(8, 0, 26);
        check.same("one more", x.ranked(5), 8);
        check.same("and none behind", x.ranked(6), NONE);
        x.retire(0, true);
        check.same("one less", x.ranked(5), NONE);
        check.same("the next one leads", x.ranked(0), 6);
    }

    private static void placeOfUnranked() {
        check.promise("15 car, NONE if it is not ranked");
        RallyCard x = States.UNDER_WAY.played();
        check.same("the last one that is", x.car(1, 5), 4);
        check.same("retired for good", x.car(2, 5), NONE);
        check.same("retired to start again", x.car(3, 5), NONE);
        check.same("out", x.car(4, 5), NONE);
        check.same("in the order, not stamped", x.car(7, 5), NONE);
        check.same("a total all the same, retired", x.car(3, 4), 100 + 1500 + 6000);
        check.same("a total all the same, out", x.car(4, 4), 3700 + 1500 + 6000);
        check.same("a total all the same, not stamped", x.car(7, 4), 600 + 1500 + 6000);
        x.open(4, RallyCard.NUMBERS);
        check.same("started again", x.car(3, 5), 5);
    }

    private static void missedStageWithoutTimes() {
        check.promise("15 car, a stage in which no other car has a time");
        RallyCard x = States.UNDER_WAY.played();
        check.same("the later stage", x.car(0, 4), 1600);
        x.open(4, RallyCard.RANK);
        check.same("the later stage when it is open", x.car(0, 4), 1600);
        x.stamp(0, 4, 200);
        check.same("and begun", x.car(0, 4), 1600);
        x.finish(0, 5, true, 600 * 203 + 1000);
        check.same("the only one that has a time", x.car(0, 4), 2600);
        check.same("another one now", x.car(6, 4), 1800 + 7000);
        x.held(0, 5, true);
        check.same("the only time is lost", x.car(0, 4), 1600);
        check.same("for the other one, too", x.car(6, 4), 1800);
    }
}
