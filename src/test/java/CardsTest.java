/** Promises 5 to 7: due, stamp, delay. */
public final class CardsTest {
    private static final Check check = new Check();

    public static void main(String[] args) {
        dueRefuses();
        dueAtLeg();
        dueAtControls();
        dueWithoutRunning();
        stampRefuses();
        stampWhere();
        stampPenalties();
        stampOut();
        stampLegsByThemselves();
        delayRefuses();
        delayGiven();
        delayCountsForLateness();
        delayByOrder();
        check.end();
    }

    private static void dueRefuses() {
        check.promise("5 due");
        RallyCard x = Rallies.oneStage();
        check.fails(Check.INDEX, "car -1", () -> x.due(-1, 0));
        check.fails(Check.INDEX, "car 10", () -> x.due(10, 0));
        check.fails(Check.INDEX, "car 10, ahead of the kind", () -> x.due(10, 2));
        check.fails(Check.INDEX, "item -1", () -> x.due(0, -1));
        check.fails(Check.INDEX, "item 4", () -> x.due(0, 4));
        check.fails(Check.ARGUMENT, "a STAGE", () -> x.due(0, 2));
    }

    private static void dueAtLeg() {
        RallyCard x = Rallies.twoLegs();
        check.same("not open", x.due(0, 0), RallyCard.NONE);
        x.open(0, RallyCard.REVERSED);
        int[] order = {4, 3, 2, 1, 0, 5, 6, 7, 8, 9};
        for (int place = 0; place < 10; place++) {
            check.same("by its place", x.due(order[place], 0), 2 * place);
        }
        check.same("the later leg, not open", x.due(0, 3), RallyCard.NONE);
        Rallies.stampInTime(x, 7, 0);
        Rallies.stampInTime(x, 2, 0);
        x.open(3, RallyCard.NUMBERS);
        check.same("the first one of the later leg", x.due(2, 3), 100);
        check.same("the second one", x.due(7, 3), 102);
        check.same("not in the order", x.due(0, 3), RallyCard.NONE);
        Rallies.stampInTime(x, 7, 3);
        check.same("when stamped there", x.due(7, 3), 102);
    }

    private static void dueAtControls() {
        RallyCard x = Rallies.oneStage();
        check.same("not stamped ahead", x.due(1, 1), RallyCard.NONE);
        check.same("not stamped ahead", x.due(1, 3), RallyCard.NONE);
        x.stamp(1, 0, 20);
        check.same("by the stamp, not by what was due", x.due(1, 1), 25);
        check.same("one control further", x.due(1, 3), RallyCard.NONE);
        x.stamp(1, 1, 30);
        check.same("when stamped there", x.due(1, 1), 25);
        check.same("with a stage between", x.due(1, 3), 53);
        x.stamp(1, 3, 40);
        check.same("when stamped there", x.due(1, 3), 53);
        check.same("another car", x.due(0, 1), RallyCard.NONE);
        RallyCard y = Rallies.twoLegs();
        y.open(0, RallyCard.NUMBERS);
        y.stamp(0, 0, 7);
        check.same("a stage behind the leg", y.due(0, 2), 20);
    }

    private static void dueWithoutRunning() {
        RallyCard x = Rallies.oneStage();
        x.retire(0, true);
        check.same("retired, at the leg", x.due(0, 0), RallyCard.NONE);
        Rallies.stampInTime(x, 1, 0);
        x.retire(1, false);
        check.same("retired, where it was stamped", x.due(1, 0), RallyCard.NONE);
        check.same("retired, further", x.due(1, 1), RallyCard.NONE);
        x.stamp(2, 0, 14 + 31);
        check.same("out, where it was stamped", x.due(2, 0), RallyCard.NONE);
        check.same("out, further", x.due(2, 1), RallyCard.NONE);
        x.stamp(3, 0, 16 + 30);
        check.same("late by 30 is not out", x.due(3, 1), 51);
    }

    private static void stampRefuses() {
        check.promise("6 stamp");
        RallyCard x = Rallies.oneStage();
        check.fails(Check.INDEX, "car -1", () -> x.stamp(-1, 0, 10));
        check.fails(Check.INDEX, "car 10", () -> x.stamp(10, 0, 10));
        check.fails(Check.INDEX, "item -1", () -> x.stamp(0, -1, 10));
        check.fails(Check.INDEX, "item 4, ahead of the minute", () -> x.stamp(0, 4, -1));
        check.fails(Check.ARGUMENT, "a STAGE", () -> x.stamp(0, 2, 10));
        check.fails(Check.ARGUMENT, "minute -1", () -> x.stamp(0, 0, -1));
        check.fails(Check.ARGUMENT, "minute 2001", () -> x.stamp(0, 0, 2001));
        check.fails(Check.ARGUMENT, "minute 2001, ahead of the state", () -> x.stamp(0, 1, 2001));
        check.same("nothing has changed", x.car(0, 0) + x.car(0, 1), 0);
        check.same("minute 0", x.stamp(0, 0, 0), 6000);
        check.same("minute 2000", x.stamp(1, 0, 2000), 198800);
    }

    private static void stampWhere() {
        RallyCard x = Rallies.twoLegs();
        check.fails(Check.STATE, "not open", () -> x.stamp(0, 0, 0));
        x.open(0, RallyCard.NUMBERS);
        check.fails(Check.STATE, "not stamped ahead", () -> x.stamp(0, 2, 13));
        check.fails(Check.STATE, "the later leg is not open", () -> x.stamp(0, 3, 100));
        check.same("the leg", x.stamp(0, 0, 0), 0);
        check.fails(Check.STATE, "the leg again", () -> x.stamp(0, 0, 0));
        check.same("the control", x.stamp(0, 2, 13), 0);
        check.fails(Check.STATE, "the control again", () -> x.stamp(0, 2, 13));
        x.open(3, RallyCard.NUMBERS);
        check.fails(Check.STATE, "not in the later order", () -> x.stamp(1, 3, 100));
        check.fails(Check.STATE, "not stamped at the later leg", () -> x.stamp(0, 5, 113));
        x.retire(0, false);
        check.fails(Check.STATE, "retired", () -> x.stamp(0, 3, 100));
        check.same("no penalty by what was refused", x.car(0, 0) + x.car(1, 0), 0);
    }

    private static void stampPenalties() {
        RallyCard x = Rallies.oneStage();
        check.same("in time", x.stamp(0, 0, 10), 0);
        check.same("a minute late", x.stamp(0, 1, 16), 100);
        check.same("a minute early", x.stamp(0, 3, 38), 600);
        check.same("both in its penalties", x.car(0, 0), 700);
        check.same("early minutes take no late ones away", x.car(0, 1), 1);
        check.same("thirty late", x.stamp(1, 0, 42), 3000);
        check.same("ten early", x.stamp(2, 0, 4), 6000);
        check.same("early is not late", x.car(2, 1), 0);
    }

    private static void stampOut() {
        RallyCard x = Rallies.oneStage();
        x.stamp(0, 0, 10 + 20);
        x.stamp(0, 1, x.due(0, 1) + 10);
        check.same("30 in all", x.car(0, 1), 30);
        check.same("is not out", x.car(0, 2), 0);
        check.same("one more counts still", x.stamp(0, 3, x.due(0, 3) + 1), 100);
        check.same("its penalties", x.car(0, 0), 3100);
        check.same("is out", x.car(0, 2), 1);
        x.stamp(1, 0, 12 + 31);
        check.same("out at once", x.car(1, 2), 1);
        check.fails(Check.STATE, "out, at the next one", () -> x.stamp(1, 1, 60));
    }

    private static void stampLegsByThemselves() {
        RallyCard x = Rallies.twoLegs();
        x.open(0, RallyCard.NUMBERS);
        Rallies.stampInTime(x, 0, 0);
        x.open(3, RallyCard.NUMBERS);
        check.same("the later leg ahead of the control", x.stamp(0, 3, 100), 0);
        check.same("then the control of the earlier one", x.stamp(0, 2, 13), 0);
        check.same("another car at the earlier leg", x.stamp(1, 0, 2), 0);
        x.retire(1, true);
        check.same("no leg opened for it", x.car(1, 3), 1);
    }

    private static void delayRefuses() {
        check.promise("7 delay");
        RallyCard x = Rallies.twoLegs();
        check.fails(Check.STATE, "the leg is not open", () -> x.delay(2, 0, 5));
        x.open(0, RallyCard.NUMBERS);
        check.fails(Check.INDEX, "item -1", () -> x.delay(-1, 0, 5));
        check.fails(Check.INDEX, "item 6", () -> x.delay(6, 0, 5));
        check.fails(Check.INDEX, "car -1", () -> x.delay(2, -1, 5));
        check.fails(Check.INDEX, "car 10, ahead of the minutes", () -> x.delay(2, 10, 0));
        check.fails(Check.ARGUMENT, "a LEG", () -> x.delay(0, 0, 5));
        check.fails(Check.ARGUMENT, "a STAGE", () -> x.delay(1, 0, 5));
        check.fails(Check.ARGUMENT, "minutes 0", () -> x.delay(2, 0, 0));
        check.fails(Check.ARGUMENT, "minutes 61", () -> x.delay(2, 0, 61));
        check.fails(Check.ARGUMENT, "minutes 61, ahead of the state", () -> x.delay(5, 0, 61));
        check.fails(Check.STATE, "the later leg is not open", () -> x.delay(5, 0, 5));
        Rallies.stampInTime(x, 1, 0);
        check.same("nothing was given", x.due(1, 2), 15);
        x.open(3, RallyCard.NUMBERS);
        check.fails(Check.STATE, "not in the later order", () -> x.delay(5, 0, 5));
        check.same("the one in it", x.delay(5, 1, 60), 1);
        check.same("minutes 1", x.delay(5, 1, 1), 1);
        Rallies.stampInTime(x, 1, 3);
        check.same("both", x.due(1, 5), 100 + 3 + 10 + 61);
    }

    private static void delayGiven() {
        RallyCard x = Rallies.oneStage();
        for (int car = 0; car < 6; car++) {
            Rallies.stampInTime(x, car, 0);
        }
        Rallies.stampInTime(x, 3, 1);
        x.retire(4, false);
        check.same("to all behind but the one stamped there", x.delay(1, 2, 7), 7);
        check.same("not ahead", x.due(1, 1), 17);
        check.same("the car itself", x.due(2, 1), 26);
        check.same("stamped there", x.due(3, 1), 21);
        check.same("behind", x.due(5, 1), 32);
        check.same("of another control not", x.due(3, 3), 21 + 3 + 20);
        check.same("from one that is stamped there", x.delay(1, 3, 2), 6);
        check.same("its own stays", x.due(3, 1), 21);
        check.same("behind both", x.due(5, 1), 34);
        check.same("the last one alone", x.delay(1, 9, 1), 1);
        Rallies.stampInTime(x, 9, 0);
        check.same("the last one has all", x.due(9, 1), 28 + 5 + 10);
        Rallies.stampInTime(x, 9, 1);
        check.same("to none", x.delay(1, 9, 1), 0);
        Rallies.stampInTime(x, 6, 0);
        check.same("ahead of its stamp at the leg", x.due(6, 1), 22 + 5 + 9);
    }

    private static void delayCountsForLateness() {
        RallyCard x = Rallies.oneStage();
        Rallies.stampInTime(x, 0, 0);
        x.delay(1, 0, 40);
        check.same("late only beyond the delay", x.stamp(0, 1, 15 + 40 + 30), 3000);
        check.same("and not out", x.car(0, 2), 0);
        check.same("a delay is not late", x.car(0, 1), 30);
        Rallies.stampInTime(x, 1, 0);
        check.same("early by the delay", x.stamp(1, 1, 17), 24000);
        check.same("total anew", x.totalAnew(1), 24000);
    }

    private static void delayByOrder() {
        RallyCard x = Rallies.twoLegs();
        x.open(0, RallyCard.REVERSED);
        check.same("by places, not by numbers", x.delay(2, 0, 5), 6);
        Rallies.stampInTime(x, 4, 0);
        Rallies.stampInTime(x, 0, 0);
        check.same("the first one of the order", x.due(4, 2), 13);
        check.same("the fifth one", x.due(0, 2), 8 + 13 + 5);
    }
}
