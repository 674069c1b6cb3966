/** Itineraries, orders, sets of tyres and championships of nothing and of all that they can hold. */
public final class EmptyAndFullTest {
    private static final int NONE = RallyCard.NONE;
    private static final Check check = new Check();

    public static void main(String[] args) {
        emptyItinerary();
        itineraryOfOneLeg();
        twentiethOfEachKind();
        twentyLegs();
        nineteenControls();
        tenStages();
        tenStagesHeldAndAwarded();
        greatestTotal();
        emptyOrder();
        orderOfOne();
        orderOfTenReturning();
        delayToNone();
        delayToAll();
        manyDelays();
        emptyTyres();
        fullTyres();
        emptyChampionship();
        emptyRallies();
        fullChampionship();
        check.end();
    }

    private static void emptyItinerary() {
        check.promise("1 a new object, without an itinerary");
        Script asked = new Script().call("open", 0, 0).call("starts", 0, 0).call("due", 0, 0).call("stamp", 0, 0, 0)
                .call("delay", 0, 0, 1).call("finish", 0, 0, 1, 0).call("held", 0, 0, 1).call("award", 0, 0, 0)
                .call("time", 0, 0);
        for (Script state : new Script[] {States.NEW, States.ONE_OVER, States.SIX_OVER}) {
            for (String answer : asked.answersOf(state.played())) {
                check.same("there is no such item", answer.replaceAll(".* = ", ""), "IndexOutOfBoundsException");
            }
            RallyCard x = state.played();
            for (int car = 0; car < 10; car++) {
                check.same("total", x.car(car, 4), 0);
                check.same("anew", x.totalAnew(car), 0);
                check.same("place", x.car(car, 5), NONE);
                check.same("ranked", x.ranked(car), NONE);
            }
            check.same("tyres without an itinerary", x.allocate(0, 1) + x.seen(0, 2), 601);
            x.retire(1, false);
            check.same("a retirement without one", x.car(1, 3), 1);
            check.same("the first item", x.item(RallyCard.LEG, 0), 0);
        }
    }

    private static void itineraryOfOneLeg() {
        check.promise("3 open, a LEG alone");
        RallyCard x = new RallyCard();
        x.item(RallyCard.LEG, 0);
        check.same("all", x.open(0, RallyCard.REVERSED), 10);
        for (int car = 9; car >= 0; car--) {
            Rallies.stampInTime(x, car, 0);
        }
        for (int place = 0; place < 10; place++) {
            check.same("ranked by numbers", x.ranked(place), place);
        }
        check.same("close", x.close(), 1);
    }

    private static void twentiethOfEachKind() {
        check.promise("2 item, the last one of all can be anything");
        for (int kind = RallyCard.LEG; kind <= RallyCard.STAGE; kind++) {
            RallyCard x = new RallyCard();
            x.item(RallyCard.LEG, 0);
            for (int n = 1; n < 19; n++) {
                check.same("number", x.item(RallyCard.CONTROL, 1), n);
            }
            check.same("the twentieth", x.item(kind, 0), 19);
            for (int more = RallyCard.LEG; more <= RallyCard.STAGE; more++) {
                int itsKind = more;
                check.fails(Check.STATE, "one more", () -> x.item(itsKind, 0));
            }
            check.same("open", x.open(0, RallyCard.NUMBERS), 10);
            for (int n = 0; n < 19; n++) {
                x.stamp(0, n, n);
            }
            check.same("in time", x.car(0, 0), 0);
            useLast(x, kind);
        }
    }

    private static void useLast(RallyCard x, int kind) {
        if (kind == RallyCard.STAGE) {
            x.finish(0, 19, true, 600 * 21 + 55);
            check.same("time", x.time(0, 19), 55);
            check.same("the last time of another", x.car(9, 4), 6055);
            check.fails(Check.ARGUMENT, "due", () -> x.due(0, 19));
            return;
        }
        if (kind == RallyCard.LEG) {
            check.same("opened", x.open(19, RallyCard.NUMBERS), 1);
        }
        check.same("due", x.due(0, 19), kind == RallyCard.LEG ? 0 : 18);
        check.same("stamped", x.stamp(0, 19, 20), kind == RallyCard.LEG ? 2000 : 200);
        check.fails(Check.ARGUMENT, "time", () -> x.time(0, 19));
    }

    private static void twentyLegs() {
        check.promise("3 open, twenty LEGs");
        RallyCard x = new RallyCard();
        for (int n = 0; n < 20; n++) {
            check.same("number", x.item(RallyCard.LEG, 50 * n), n);
        }
        for (int n = 0; n < 20; n++) {
            int leg = n;
            if (n < 18) {
                check.fails(Check.STATE, "the one behind the next", () -> x.open(leg + 2, 0));
            }
            check.same("how many", x.open(n, RallyCard.RANK), n == 0 ? 10 : 2);
            check.fails(Check.STATE, "again", () -> x.open(leg, 0));
            check.same("due", x.due(7, n), 50 * n + (n == 0 ? 14 : 2));
            Rallies.stampInTime(x, 7, n);
            if (n == 0) {
                Rallies.stampInTime(x, 3, n);
            }
        }
        check.same("starts in the last one", x.starts(19, 1), 7);
        check.same("all in time", x.car(7, 0), 0);
    }

    private static void nineteenControls() {
        check.promise("6 stamp, nineteen CONTROLs");
        RallyCard x = new RallyCard();
        x.item(RallyCard.LEG, 0);
        for (int n = 1; n < 20; n++) {
            x.item(RallyCard.CONTROL, 10);
        }
        x.open(0, RallyCard.NUMBERS);
        int minute = 0;
        for (int n = 0; n < 20; n++) {
            int control = n;
            check.same("due", x.due(0, n), minute);
            check.same("late in turn", x.stamp(0, n, minute + 1), 100);
            check.fails(Check.STATE, "again", () -> x.stamp(0, control, 0));
            minute += 11;
        }
        check.same("minutes late", x.car(0, 1), 20);
        check.same("penalties", x.car(0, 0), 2000);
        check.same("anew", x.totalAnew(0), 2000);
        check.same("not out", x.car(0, 2), 0);
    }

    /** A LEG, then in turn ten STAGEs and nine CONTROLs; all cars are everywhere in time. */
    private static RallyCard full() {
        RallyCard x = new RallyCard();
        x.item(RallyCard.LEG, 0);
        for (int n = 1; n < 20; n++) {
            x.item(n % 2 == 1 ? RallyCard.STAGE : RallyCard.CONTROL, n % 2 == 1 ? 0 : 20);
        }
        x.open(0, RallyCard.NUMBERS);
        for (int car = 0; car < 10; car++) {
            for (int control = 0; control < 20; control += 2) {
                x.stamp(car, control, 2 * car + 23 * (control / 2));
            }
        }
        return x;
    }

    private static int start(int car, int stage) {
        return 600 * (2 * car + 23 * (stage / 2) + 3);
    }

    private static void tenStages() {
        check.promise("11 time, ten STAGEs and ten cars");
        RallyCard x = full();
        for (int car = 0; car < 10; car++) {
            for (int stage = 1; stage < 20; stage += 2) {
                x.finish(car, stage, true, start(car, stage) + 100 * stage + car);
            }
        }
        for (int car = 0; car < 10; car++) {
            check.same("the first one", x.time(car, 1), 100 + car);
            check.same("the last one", x.time(car, 19), 1900 + car);
            check.same("total", x.car(car, 4), 10000 + 10 * car);
            check.same("anew", x.totalAnew(car), 10000 + 10 * car);
            check.same("rank", x.ranked(car), car);
        }
    }

    private static void tenStagesHeldAndAwarded() {
        check.promise("9 held, the last STAGE of twenty items");
        RallyCard x = full();
        x.finish(4, 19, false, start(4, 19) + 400);
        x.finish(5, 19, true, start(5, 19) + 500);
        x.finish(5, 19, false, start(5, 19) + 490);
        check.same("ahead of all", x.held(0, 19, true), 410);
        check.same("behind all", x.held(9, 19, true), 500);
        check.same("the last one alone", x.time(0, 17), NONE);
        for (int car = 0; car < 10; car++) {
            x.award(car, 19, car == 4 ? NONE : 7);
        }
        check.same("the one without an award", x.time(4, 19), 410);
        check.same("is the last one", x.ranked(9), 4);
    }

    private static void greatestTotal() {
        check.promise("15 car, the greatest total");
        RallyCard x = full();
        for (int stage = 1; stage < 20; stage += 2) {
            x.finish(0, stage, true, 2000000);
            x.finish(0, stage, false, start(0, stage));
            x.finish(1, stage, false, 2000000);
        }
        int sum = 0;
        int behind = 0;
        for (int stage = 1; stage < 20; stage += 2) {
            int time = 2000000 - start(0, stage);
            check.same("by the beam", x.time(0, stage), time);
            check.same("by hand and the greatest mean", x.time(1, stage), time + 2000000 - start(1, stage));
            sum += time;
            behind += time + 2000000 - start(1, stage);
        }
        for (int barcode = 0; barcode < 100; barcode++) {
            x.seen(0, barcode);
        }
        check.same("total", x.car(0, 4), sum + 60000);
        check.same("anew", x.totalAnew(0), sum + 60000);
        check.same("by hand", x.car(1, 4), behind);
        check.same("missed all", x.car(2, 4), sum + 60000);
        check.same("the first one", x.ranked(0), 0);
        check.same("the last one", x.ranked(9), 1);
    }

    private static void emptyOrder() {
        check.promise("3 open, an order of no car");
        for (int kind = RallyCard.NUMBERS; kind <= RallyCard.REVERSED; kind++) {
            RallyCard x = Rallies.twoLegs();
            x.open(0, kind);
            x.retire(2, true);
            x.stamp(3, 0, 500);
            check.same("how many", x.open(3, kind), 0);
            int again = kind;
            check.fails(Check.STATE, "it is open", () -> x.open(3, again));
            for (int car = 0; car < 10; car++) {
                int one = car;
                check.same("starts", x.starts(3, car), NONE);
                check.same("due", x.due(car, 3), NONE);
                check.same("ranked", x.ranked(car), NONE);
                check.same("place", x.car(car, 5), NONE);
                check.fails(Check.STATE, "stamp", () -> x.stamp(one, 3, 100));
                check.fails(Check.STATE, "delay", () -> x.delay(5, one, 1));
            }
            check.same("close", x.close(), 1);
            check.same("no points", x.points(2) + x.points(3), 0);
        }
    }

    private static void orderOfOne() {
        check.promise("3 open, an order of one car");
        for (int kind = RallyCard.NUMBERS; kind <= RallyCard.REVERSED; kind++) {
            for (int isBack = 0; isBack <= 1; isBack++) {
                RallyCard x = Rallies.twoLegs();
                x.open(0, kind);
                Rallies.stampInTime(x, 9, 0);
                if (isBack == 1) {
                    x.retire(9, true);
                }
                check.same("how many", x.open(3, kind), 1);
                check.same("the first one", x.starts(3, 0), 9);
                check.same("the second one", x.starts(3, 1), NONE);
                check.same("due", x.due(9, 3), 100);
                check.same("a delay to it alone", x.delay(5, 9, 1), 1);
                Rallies.stampInTime(x, 9, 3);
                x.finish(9, 4, true, 600 * 103 + 1);
                check.same("held up without others", x.held(9, 4, true), NONE);
            }
        }
    }

    private static void orderOfTenReturning() {
        check.promise("3 open, all ten start again");
        for (int kind = RallyCard.NUMBERS; kind <= RallyCard.REVERSED; kind++) {
            RallyCard x = Rallies.twoLegs();
            x.open(0, RallyCard.REVERSED);
            for (int car = 9; car >= 0; car--) {
                Rallies.drive(x, car, 900 - 10 * car);
                x.retire(car, true);
            }
            check.same("none is ranked", x.ranked(0), NONE);
            check.same("all ten", x.open(3, kind), 10);
            for (int place = 0; place < 10; place++) {
                check.same("by rising numbers", x.starts(3, place), place);
                check.same("no more retired", x.car(place, 3), 0);
                check.same("ranked by their times", x.ranked(place), 9 - place);
            }
        }
    }

    private static void delayToNone() {
        check.promise("7 delay, all are stamped there");
        RallyCard x = Rallies.oneStage();
        for (int car = 0; car < 10; car++) {
            Rallies.stampInTime(x, car, 0, 1);
        }
        for (int car = 0; car < 10; car++) {
            check.same("to none", x.delay(1, car, 60), 0);
            check.same("its due stands", x.due(car, 1), 15 + 2 * car);
        }
        check.same("at the next one to all", x.delay(3, 0, 1), 10);
    }

    private static void delayToAll() {
        check.promise("7 delay, to all behind");
        for (int from = 0; from < 10; from++) {
            RallyCard x = Rallies.oneStage();
            check.same("how many from " + from, x.delay(1, from, 5), 10 - from);
            for (int car = 0; car < 10; car++) {
                Rallies.stampInTime(x, car, 0);
                check.same("due " + car, x.due(car, 1), 15 + 2 * car + (car < from ? 0 : 5));
            }
        }
    }

    private static void manyDelays() {
        check.promise("7 delay, all that were given");
        RallyCard x = Rallies.oneStage();
        for (int n = 1; n <= 400; n++) {
            x.delay(1, 4, 60);
        }
        for (int car = 3; car <= 5; car++) {
            Rallies.stampInTime(x, car, 0);
            check.same("due " + car, x.due(car, 1), 15 + 2 * car + (car < 4 ? 0 : 24000));
        }
        check.same("the greatest penalty", x.stamp(4, 1, 0), 600 * (23 + 24000));
        check.same("total", x.car(4, 4), 600 * (23 + 24000));
        check.same("anew", x.totalAnew(4), 600 * (23 + 24000));
    }

    private static void emptyTyres() {
        check.promise("13 seen, without a tyre");
        RallyCard x = new RallyCard();
        for (int car = 0; car < 10; car++) {
            check.same("seen", x.seen(car, 11 * car), 600);
            check.same("penalties", x.car(car, 0), 600);
            check.same("the first one", x.allocate(car, 11 * car), 1);
        }
    }

    private static void fullTyres() {
        check.promise("12 allocate, six on each of ten cars");
        RallyCard x = new RallyCard();
        for (int car = 0; car < 10; car++) {
            int full = car;
            for (int n = 1; n <= 6; n++) {
                check.same("how many", x.allocate(car, 6 * car + n), n);
            }
            check.fails(Check.STATE, "a seventh", () -> x.allocate(full, 0));
            check.same("its last one", x.seen(car, 6 * car + 6), 0);
            check.same("not its own", x.seen(car, 0), 600);
            check.same("the next car's", x.seen(car, 6 * car + 7), 600);
            check.same("penalties", x.car(car, 0), 1200);
            check.fails(Check.STATE, "a seventh still", () -> x.allocate(full, 0));
        }
    }

    private static void emptyChampionship() {
        check.promise("20 table, no rally is over");
        RallyCard x = new RallyCard();
        RallyCard y = States.UNDER_WAY.played();
        for (int n = 0; n < 10; n++) {
            check.same("points", x.points(n), 0);
            check.same("table", x.table(n), n);
            check.same("points of a rally that is not over", y.points(n), 0);
            check.same("its table", y.table(n), n);
        }
    }

    private static void emptyRallies() {
        check.promise("20 table, rallies without a ranked car");
        RallyCard x = new RallyCard();
        for (int over = 1; over <= 6; over++) {
            x.item(RallyCard.LEG, 0);
            x.open(0, RallyCard.NUMBERS);
            check.same("over", x.close(), over);
            for (int n = 0; n < 10; n++) {
                check.same("points", x.points(n), 0);
                check.same("table", x.table(n), n);
            }
        }
    }

    /** Car 5 wins each of the six; in the last one all ten are ranked, in turned order but for it. */
    private static void fullChampionship() {
        check.promise("20 table, six rallies are over");
        RallyCard x = new RallyCard();
        for (int n = 0; n < 5; n++) {
            Rallies.close(x, 5, 0, 1, 2, 3, 4, 6, 7, 8, 9);
        }
        Rallies.close(x, 5, 9, 8, 7, 6, 4, 3, 2, 1, 0);
        int[] table = {5, 0, 1, 2, 3, 4, 6, 7, 8, 9};
        int[] sums = {125, 90, 75, 60, 50, 40, 24 + 10, 16 + 12, 8 + 15, 4 + 18};
        for (int place = 0; place < 10; place++) {
            check.same("table", x.table(place), table[place]);
            check.same("points", x.points(table[place]), sums[place]);
        }
        check.fails(Check.STATE, "a seventh", x::close);
    }
}
