/** Promises 8 to 11: finish, held, award, time. */
public final class StagesTest {
    private static final int S = 2;
    private static final Check check = new Check();

    public static void main(String[] args) {
        finishRefuses();
        finishByBeam();
        finishByHand();
        finishMeanRoundedDown();
        finishNotBelowZero();
        finishOfThoseNotRunning();
        heldRefuses();
        heldNotional();
        heldByOrder();
        heldInLaterLeg();
        heldChain();
        awardRefuses();
        awardTakesPlace();
        awardIsNoOwnTime();
        timeRefuses();
        timeOfLastStage();
        check.end();
    }

    /** All cars are at the control ahead of the stage in time: car c starts at minute 18 + 2c. */
    private static RallyCard ready() {
        RallyCard x = Rallies.oneStage();
        for (int car = 0; car < 10; car++) {
            Rallies.stampInTime(x, car, 0, 1);
        }
        return x;
    }

    private static int start(int car) {
        return 600 * (18 + 2 * car);
    }

    private static void finishRefuses() {
        check.promise("8 finish");
        RallyCard x = Rallies.oneStage();
        Rallies.stampInTime(x, 0, 0, 1);
        Rallies.stampInTime(x, 1, 0);
        check.fails(Check.INDEX, "car -1", () -> x.finish(-1, S, true, 20000));
        check.fails(Check.INDEX, "car 10, ahead of the kind", () -> x.finish(10, 1, true, 20000));
        check.fails(Check.INDEX, "item -1", () -> x.finish(0, -1, true, 20000));
        check.fails(Check.INDEX, "item 4, ahead of the tenths", () -> x.finish(0, 4, true, -1));
        check.fails(Check.ARGUMENT, "a LEG", () -> x.finish(0, 0, true, 20000));
        check.fails(Check.ARGUMENT, "a CONTROL", () -> x.finish(0, 1, true, 20000));
        check.fails(Check.ARGUMENT, "tenths -1", () -> x.finish(0, S, true, -1));
        check.fails(Check.ARGUMENT, "tenths 2000001", () -> x.finish(0, S, true, 2000001));
        check.fails(Check.ARGUMENT, "tenths 2000001, ahead of the state", () -> x.finish(1, S, true, 2000001));
        check.fails(Check.STATE, "not stamped ahead, at the leg alone", () -> x.finish(1, S, true, 20000));
        check.fails(Check.STATE, "not stamped at all", () -> x.finish(2, S, false, 20000));
        check.fails(Check.STATE, "less than its start, by the beam", () -> x.finish(0, S, true, start(0) - 1));
        check.fails(Check.STATE, "less than its start, by hand", () -> x.finish(0, S, false, start(0) - 1));
        check.fails(Check.STATE, "tenths 0", () -> x.finish(0, S, true, 0));
        check.same("nothing was told", x.time(0, S), RallyCard.NONE);
        x.finish(0, S, false, start(0));
        check.same("at its start by hand", x.time(0, S), 0);
        x.finish(0, S, true, 2000000);
        check.same("tenths 2000000", x.time(0, S), 2000000 - start(0));
    }

    private static void finishByBeam() {
        RallyCard x = ready();
        x.finish(4, S, true, start(4) + 3000);
        check.same("the finish less the start", x.time(4, S), 3000);
        x.finish(4, S, true, start(4) + 2500);
        check.same("another one takes its place", x.time(4, S), 2500);
        x.finish(4, S, false, start(4) + 9);
        check.same("by hand behind the beam", x.time(4, S), 2500);
        check.same("another car", x.time(5, S), RallyCard.NONE);
        x.finish(4, S, true, start(4));
        check.same("0 is a time", x.time(4, S), 0);
    }

    private static void finishByHand() {
        RallyCard x = ready();
        x.finish(0, S, false, start(0) + 1000);
        check.same("by hand alone", x.time(0, S), 1000);
        x.finish(1, S, true, start(1) + 1000);
        check.same("a beam without a hand counts nothing", x.time(0, S), 1000);
        x.finish(1, S, false, start(1) + 970);
        check.same("the mean of one", x.time(0, S), 1030);
        x.finish(2, S, false, start(2) + 1000);
        x.finish(2, S, true, start(2) + 1010);
        check.same("the mean of two", x.time(0, S), 1020);
        check.same("the beam stands", x.time(2, S), 1010);
        x.finish(2, S, false, start(2) + 960);
        check.same("told again", x.time(0, S), 1040);
        x.finish(0, S, false, start(0) + 500);
        check.same("the hand told again", x.time(0, S), 540);
        x.finish(0, S, true, start(0) + 500);
        check.same("the beam takes its place", x.time(0, S), 500);
    }

    private static void finishMeanRoundedDown() {
        RallyCard x = ready();
        x.finish(0, S, false, start(0) + 1000);
        both(x, 1, 11);
        both(x, 2, 20);
        check.same("(11 + 20) / 2", x.time(0, S), 1015);
        both(x, 2, -14);
        check.same("(11 - 14) / 2", x.time(0, S), 998);
        both(x, 3, -5);
        check.same("(11 - 14 - 5) / 3", x.time(0, S), 997);
        both(x, 3, 3);
        check.same("0 / 3", x.time(0, S), 1000);
        both(x, 3, 2);
        check.same("-1 / 3", x.time(0, S), 999);
        both(x, 3, 4);
        check.same("1 / 3", x.time(0, S), 1000);
    }

    private static void both(RallyCard x, int car, int lead) {
        x.finish(car, S, false, start(car) + 5000);
        x.finish(car, S, true, start(car) + 5000 + lead);
    }

    private static void finishNotBelowZero() {
        RallyCard x = ready();
        x.finish(0, S, false, start(0) + 10);
        both(x, 1, -11);
        check.same("not below 0", x.time(0, S), 0);
        both(x, 1, -9);
        check.same("1", x.time(0, S), 1);
    }

    private static void finishOfThoseNotRunning() {
        RallyCard x = ready();
        x.retire(0, false);
        x.finish(0, S, true, start(0) + 700);
        check.same("retired", x.time(0, S), 700);
        check.same("held when retired", x.held(0, S, true), RallyCard.NONE);
        check.same("awarded when retired", x.award(0, S, 9), 9);
        x.stamp(1, 3, 1000);
        x.finish(1, S, true, start(1) + 800);
        check.same("out", x.time(1, S), 800);
        x.stamp(2, 3, 40);
        x.finish(2, S, true, start(2) + 900);
        check.same("its stamp behind does not matter", x.time(2, S), 900);
    }

    private static void heldRefuses() {
        check.promise("9 held");
        RallyCard x = Rallies.oneStage();
        Rallies.stampInTime(x, 0, 0, 1);
        Rallies.stampInTime(x, 1, 0);
        check.fails(Check.INDEX, "car -1", () -> x.held(-1, S, true));
        check.fails(Check.INDEX, "car 10", () -> x.held(10, 1, true));
        check.fails(Check.INDEX, "item -1", () -> x.held(0, -1, true));
        check.fails(Check.INDEX, "item 4", () -> x.held(0, 4, true));
        check.fails(Check.ARGUMENT, "a LEG", () -> x.held(0, 0, true));
        check.fails(Check.ARGUMENT, "a CONTROL, ahead of the state", () -> x.held(5, 3, true));
        check.fails(Check.STATE, "not stamped ahead", () -> x.held(1, S, true));
        check.fails(Check.STATE, "not stamped ahead, not held", () -> x.held(2, S, false));
        check.same("without a time", x.held(0, S, false), RallyCard.NONE);
    }

    private static void heldNotional() {
        RallyCard x = ready();
        x.finish(2, S, true, start(2) + 5000);
        check.same("none without both", x.held(2, S, true), RallyCard.NONE);
        x.finish(0, S, true, start(0) + 1000);
        check.same("the one ahead alone", x.time(2, S), 1000);
        x.finish(5, S, true, start(5) + 2001);
        check.same("the mean, rounded down", x.time(2, S), 1500);
        x.finish(3, S, false, start(3) + 4000);
        check.same("the next one behind, by hand", x.time(2, S), 2500);
        check.same("the first one of all, behind alone", x.held(0, S, true), 4000);
        check.same("behind alone now", x.time(2, S), 4000);
        check.same("a car without a finish", x.held(9, S, true), 2001);
        check.same("not held any more", x.held(2, S, false), 5000);
        check.same("the next one counts again", x.time(0, S), 5000);
        check.same("held twice is held", x.held(0, S, true), 5000);
        check.same("own time again", x.held(0, S, false), 1000);
        check.same("no own time again", x.held(9, S, false), RallyCard.NONE);
    }

    private static void heldByOrder() {
        RallyCard x = Rallies.twoLegs();
        x.open(0, RallyCard.REVERSED);
        Rallies.drive(x, 3, 1000);
        Rallies.drive(x, 1, 3000);
        Rallies.drive(x, 0, 7000);
        Rallies.drive(x, 5, 9000);
        Rallies.stampInTime(x, 2, 0);
        check.same("between 3 and 1 of 4 3 2 1 0 5", x.held(2, 1, true), 2000);
        check.same("between 1 and 5", x.held(0, 1, true), 6000);
        x.retire(3, false);
        check.same("a retired one counts still", x.time(2, 1), 2000);
    }

    /** The order of the later leg counts there: 2, 0, 1 by rank. */
    private static void heldInLaterLeg() {
        RallyCard x = Rallies.twoLegs();
        x.open(0, RallyCard.NUMBERS);
        Rallies.drive(x, 0, 500);
        Rallies.drive(x, 1, 900);
        Rallies.drive(x, 2, 100);
        x.open(3, RallyCard.RANK);
        for (int car = 0; car < 3; car++) {
            Rallies.stampInTime(x, car, 3);
            x.finish(car, 4, true, 600 * (x.due(car, 3) + 3) + 1000 * (car + 1));
        }
        check.same("the first one, by the one behind", x.held(2, 4, true), 1000);
        check.same("the last one, by the one ahead", x.held(1, 4, true), 1000);
        check.same("the earlier leg's time stands", x.time(2, 1), 100);
    }

    private static void heldChain() {
        RallyCard x = ready();
        for (int car = 0; car < 5; car++) {
            x.finish(car, S, true, start(car) + 1000 * (car + 1));
        }
        x.held(1, S, true);
        x.held(2, S, true);
        check.same("over one that was held up", x.held(3, S, true), 3000);
        check.same("all by those that were not", x.time(1, S), 3000);
        check.same("rounded down", x.time(2, S), 3000);
        x.held(0, S, true);
        check.same("behind alone", x.time(2, S), 5000);
        check.same("none is left", x.held(4, S, true), RallyCard.NONE);
        check.same("for none of them", x.time(0, S), RallyCard.NONE);
    }

    private static void awardRefuses() {
        check.promise("10 award");
        RallyCard x = Rallies.oneStage();
        Rallies.stampInTime(x, 0, 0, 1);
        Rallies.stampInTime(x, 1, 0);
        check.fails(Check.INDEX, "car -1", () -> x.award(-1, S, 5));
        check.fails(Check.INDEX, "car 10", () -> x.award(10, 1, 5));
        check.fails(Check.INDEX, "item -1", () -> x.award(0, -1, 5));
        check.fails(Check.INDEX, "item 4, ahead of the tenths", () -> x.award(0, 4, -2));
        check.fails(Check.ARGUMENT, "a LEG", () -> x.award(0, 0, 5));
        check.fails(Check.ARGUMENT, "a CONTROL", () -> x.award(0, 3, 5));
        check.fails(Check.ARGUMENT, "tenths -2", () -> x.award(0, S, -2));
        check.fails(Check.ARGUMENT, "tenths 100000, ahead of the state", () -> x.award(1, S, 100000));
        check.fails(Check.STATE, "not stamped ahead", () -> x.award(1, S, 5));
        check.fails(Check.STATE, "not stamped ahead, taken back", () -> x.award(2, S, RallyCard.NONE));
        check.same("nothing to take back", x.award(0, S, RallyCard.NONE), RallyCard.NONE);
        check.same("0", x.award(0, S, 0), 0);
        check.same("99999", x.award(0, S, 99999), 99999);
    }

    private static void awardTakesPlace() {
        RallyCard x = ready();
        check.same("of no time", x.award(3, S, 1234), 1234);
        check.same("time", x.time(3, S), 1234);
        x.finish(3, S, true, start(3) + 3000);
        check.same("a finish does not change it", x.time(3, S), 1234);
        check.same("another one", x.award(3, S, 4321), 4321);
        check.same("taken back", x.award(3, S, RallyCard.NONE), 3000);
        x.finish(4, S, true, start(4) + 1000);
        x.held(3, S, true);
        check.same("of a notional time", x.award(3, S, 5), 5);
        check.same("held no more", x.held(3, S, false), 5);
        check.same("held again", x.held(3, S, true), 5);
        check.same("the notional time again", x.award(3, S, RallyCard.NONE), 1000);
    }

    private static void awardIsNoOwnTime() {
        RallyCard x = ready();
        x.finish(0, S, true, start(0) + 1000);
        x.award(0, S, 7);
        x.award(1, S, 8);
        check.same("by the own time, not by awards", x.held(2, S, true), 1000);
        x.finish(3, S, false, start(3) + 3000);
        x.finish(0, S, false, start(0) + 990);
        check.same("the mean takes awarded ones, too", x.time(3, S), 3010);
    }

    private static void timeRefuses() {
        check.promise("11 time");
        RallyCard x = Rallies.oneStage();
        check.fails(Check.INDEX, "car -1", () -> x.time(-1, S));
        check.fails(Check.INDEX, "car 10, ahead of the kind", () -> x.time(10, 0));
        check.fails(Check.INDEX, "item -1", () -> x.time(0, -1));
        check.fails(Check.INDEX, "item 4", () -> x.time(0, 4));
        check.fails(Check.ARGUMENT, "a LEG", () -> x.time(0, 0));
        check.fails(Check.ARGUMENT, "a CONTROL", () -> x.time(0, 1));
        check.same("without a stamp", x.time(0, S), RallyCard.NONE);
    }

    private static void timeOfLastStage() {
        RallyCard x = new RallyCard();
        x.item(RallyCard.LEG, 1);
        x.item(RallyCard.STAGE, 0);
        x.item(RallyCard.CONTROL, 2);
        x.item(RallyCard.STAGE, 0);
        x.open(0, RallyCard.NUMBERS);
        Rallies.stampInTime(x, 0, 0);
        x.finish(0, 1, true, 2400);
        check.same("started behind the leg", x.time(0, 1), 0);
        check.fails(Check.STATE, "the last stage, not stamped ahead", () -> x.finish(0, 3, true, 6000));
        Rallies.stampInTime(x, 0, 2);
        x.finish(0, 3, true, 6000);
        check.same("a stage at the end", x.time(0, 3), 6000 - 600 * 9);
        check.same("each by itself", x.time(0, 1), 0);
    }
}
