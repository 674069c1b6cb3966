/** Promises 15 to 17: car, totalAnew, ranked. */
public final class RanksTest {
    private static final Check check = new Check();

    public static void main(String[] args) {
        refuses();
        whoIsRanked();
        totals();
        missedStage();
        equalTotals();
        equalTimes();
        firstStageDecides();
        restartAddsTime();
        check.end();
    }

    private static void refuses() {
        RallyCard x = Rallies.oneStage();
        check.promise("15 car");
        check.fails(Check.INDEX, "car -1", () -> x.car(-1, 0));
        check.fails(Check.INDEX, "car 10, ahead of what", () -> x.car(10, 6));
        check.fails(Check.ARGUMENT, "what -1", () -> x.car(0, -1));
        check.fails(Check.ARGUMENT, "what 6", () -> x.car(0, 6));
        check.promise("16 totalAnew");
        check.fails(Check.INDEX, "car -1", () -> x.totalAnew(-1));
        check.fails(Check.INDEX, "car 10", () -> x.totalAnew(10));
        check.promise("17 ranked");
        check.fails(Check.ARGUMENT, "place -1", () -> x.ranked(-1));
        check.fails(Check.ARGUMENT, "place 10", () -> x.ranked(10));
    }

    private static void whoIsRanked() {
        check.promise("17 ranked");
        RallyCard x = Rallies.twoLegs();
        x.open(0, RallyCard.NUMBERS);
        ranks(x);
        for (int car = 9; car >= 0; car--) {
            Rallies.stampInTime(x, car, 0);
        }
        ranks(x, 0, 1, 2, 3, 4, 5, 6, 7, 8, 9);
        x.retire(3, true);
        x.stamp(5, 2, 1000);
        x.seen(0, 1);
        ranks(x, 1, 2, 4, 6, 7, 8, 9, 0);
        x.open(3, RallyCard.NUMBERS);
        ranks(x, 1, 2, 3, 4, 6, 7, 8, 9, 0);
        check.promise("15 car");
        check.same("out", x.car(5, 2), 1);
        check.same("minutes late", x.car(5, 1), 1000 - 23);
        check.same("not out", x.car(3, 2), 0);
        check.same("no more retired", x.car(3, 3), 0);
    }

    private static void totals() {
        check.promise("15 car");
        RallyCard x = new RallyCard();
        x.item(RallyCard.LEG, 0);
        for (int n = 0; n < 2; n++) {
            x.item(RallyCard.STAGE, 0);
            x.item(RallyCard.CONTROL, 10);
        }
        x.open(0, RallyCard.NUMBERS);
        x.stamp(0, 0, 1);
        x.finish(0, 1, true, 2400 + 700);
        x.stamp(0, 2, 12);
        x.finish(0, 3, false, 9000 + 800);
        x.seen(0, 5);
        check.same("penalties", x.car(0, 0), 100 + 1200 + 600);
        check.same("total", x.car(0, 4), 700 + 800 + 1900);
        check.promise("16 totalAnew");
        check.same("anew", x.totalAnew(0), 3400);
        x.held(0, 3, true);
        check.same("a time that was lost", x.totalAnew(0), 2600);
        x.award(0, 3, 50);
        check.same("an award", x.totalAnew(0), 2650);
        check.same("as kept", x.car(0, 4), 2650);
        x.retire(0, false);
        check.same("whether it is ranked or not", x.car(0, 4), 2650);
        check.same("anew, too", x.totalAnew(0), 2650);
    }

    private static void missedStage() {
        check.promise("15 car");
        RallyCard x = Rallies.twoLegs();
        x.open(0, RallyCard.NUMBERS);
        check.same("no car has a time", x.car(0, 4), 0);
        Rallies.drive(x, 0, 900);
        Rallies.drive(x, 1, 400);
        check.same("the best time and 6000", x.car(7, 4), 6400);
        check.same("anew", x.totalAnew(7), 6400);
        x.award(0, 1, 100);
        check.same("an award can be the best", x.car(7, 4), 6100);
        x.award(0, 1, RallyCard.NONE);
        x.stamp(1, 2, 500);
        check.same("of one that is out, too", x.car(7, 4), 6400);
        x.held(1, 1, true);
        check.same("by a notional time", x.car(1, 4), 900 + 100 * (500 - 15));
        check.same("the best one now", x.car(7, 4), 6900);
        x.award(0, 1, 0);
        check.same("0 is a best time", x.car(7, 4), 6000);
    }

    private static void equalTotals() {
        check.promise("17 ranked");
        RallyCard x = Rallies.twoLegs();
        x.open(0, RallyCard.NUMBERS);
        Rallies.drive(x, 1, 900);
        Rallies.drive(x, 0, 1500);
        x.seen(1, 3);
        check.same("the better time in the first stage", x.ranked(0), 1);
        Rallies.stampInTime(x, 2, 0);
        x.award(0, 1, 100);
        x.award(1, 1, 6100);
        check.same("a total of the missed stage", x.car(2, 4), 6100);
        x.seen(2, 3);
        check.same("the total of both", x.car(1, 4), x.car(2, 4));
        ranks(x, 0, 1, 2);
        Rallies.stampInTime(x, 3, 0);
        x.award(3, 1, 6700);
        ranks(x, 0, 1, 3, 2);
    }

    private static void equalTimes() {
        RallyCard x = Rallies.twoLegs();
        x.open(0, RallyCard.REVERSED);
        Rallies.drive(x, 4, 900);
        Rallies.drive(x, 2, 900);
        Rallies.drive(x, 9, 900);
        ranks(x, 2, 4, 9);
        check.promise("15 car");
        check.same("place", x.car(9, 5), 2);
        check.same("no place", x.car(0, 5), RallyCard.NONE);
    }

    private static void firstStageDecides() {
        check.promise("17 ranked");
        RallyCard x = Rallies.twoLegs();
        x.open(0, RallyCard.NUMBERS);
        for (int car = 0; car < 3; car++) {
            Rallies.stampInTime(x, car, 0);
        }
        x.open(3, RallyCard.NUMBERS);
        for (int car = 0; car < 3; car++) {
            Rallies.stampInTime(x, car, 3);
        }
        x.award(0, 1, 300);
        x.award(0, 4, 100);
        x.award(1, 1, 200);
        x.award(1, 4, 200);
        x.award(2, 1, 200);
        x.award(2, 4, 100);
        x.seen(2, 1);
        x.award(0, 4, 700);
        x.award(1, 4, 800);
        check.same("equal totals", x.car(0, 4), 1000);
        check.same("equal totals", x.car(1, 4), 1000);
        check.same("a lower one", x.car(2, 4), 900);
        ranks(x, 2, 1, 0);
        x.award(2, 4, 200);
        check.same("equal totals", x.car(2, 4), 1000);
        ranks(x, 2, 1, 0);
    }

    private static void restartAddsTime() {
        check.promise("15 car");
        RallyCard x = Rallies.twoLegs();
        x.open(0, RallyCard.NUMBERS);
        Rallies.drive(x, 0, 500);
        Rallies.stampInTime(x, 1, 0);
        x.retire(1, true);
        x.open(3, RallyCard.NUMBERS);
        Rallies.stampInTime(x, 0, 3);
        Rallies.stampInTime(x, 1, 3);
        x.finish(1, 4, true, 600 * 105 + 200);
        check.same("added time", x.car(1, 4), 500 + 6000 + 200);
        check.same("added time for the other one", x.car(0, 4), 500 + 200 + 6000);
        check.promise("17 ranked");
        ranks(x, 0, 1);
    }

    private static void ranks(RallyCard x, int... cars) {
        for (int place = 0; place < 10; place++) {
            int want = place < cars.length ? cars[place] : RallyCard.NONE;
            check.same("place " + place, x.ranked(place), want);
            if (want != RallyCard.NONE) {
                check.same("car " + want, x.car(want, 5), place);
            }
        }
    }
}
