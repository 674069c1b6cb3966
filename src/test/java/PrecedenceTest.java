/** Which sentence wins where two could: award, notional and own time, beam and hand, ranks, tables. */
public final class PrecedenceTest {
    private static final int NONE = RallyCard.NONE;
    private static final int S = 2;
    private static final Check check = new Check();

    public static void main(String[] args) {
        allMixtures();
        inWhichOrderTold();
        neighbourWithAward();
        neighbourThatIsNext();
        notionalRoundedDown();
        notionalChangesLater();
        meanOfStageAlone();
        totalByWhatWins();
        bestOfAllCars();
        meanOfAllCars();
        fineBeforeAllocation();
        rankByTotal();
        rankByFirstStage();
        rankByLaterStage();
        rankNoneBehindAll();
        rankByNumbers();
        tableBySum();
        tableByBest();
        tableBySecondBest();
        tableNoneBehindAll();
        tableByNumbers();
        check.end();
    }

    /** All cars are at the control ahead of the stage in time: car c starts at minute 18 + 2c. */
    private static RallyCard ready() {
        RallyCard x = Rallies.oneStage();
        for (int car = 0; car < 10; car++) {
            Rallies.stampInTime(x, car, 0, 1);
        }
        return x;
    }

    private static int start(int car) {
        return 600 * (18 + 2 * car);
    }

    private static void allMixtures() {
        check.promise("an award, a notional time, an own time");
        for (int mixture = 0; mixture < 64; mixture++) {
            boolean isAwarded = (mixture & 1) != 0;
            boolean isHeld = (mixture & 2) != 0;
            boolean hasBeam = (mixture & 4) != 0;
            boolean hasHand = (mixture & 8) != 0;
            boolean hasAhead = (mixture & 16) != 0;
            boolean hasBehind = (mixture & 32) != 0;
            RallyCard x = ready();
            tell(x, hasBeam, hasHand, hasAhead, hasBehind);
            int own = hasBeam ? 5000 : hasHand ? 4900 : NONE;
            check.same("own, " + mixture, x.time(5, S), own);
            int notional = hasAhead && hasBehind ? 1500 : hasAhead ? 1000 : hasBehind ? 2001 : NONE;
            int unawarded = isHeld ? notional : own;
            check.same("held, " + mixture, x.held(5, S, isHeld), unawarded);
            int due = isAwarded ? 7777 : unawarded;
            check.same("awarded, " + mixture, x.award(5, S, isAwarded ? 7777 : NONE), due);
            check.same("time, " + mixture, x.time(5, S), due);
            check.same("taken back, " + mixture, x.award(5, S, NONE), unawarded);
        }
    }

    private static void tell(RallyCard x, boolean hasBeam, boolean hasHand, boolean hasAhead, boolean hasBehind) {
        if (hasBeam) {
            x.finish(5, S, true, start(5) + 5000);
        }
        if (hasHand) {
            x.finish(5, S, false, start(5) + 4900);
        }
        if (hasAhead) {
            x.finish(2, S, true, start(2) + 1000);
        }
        if (hasBehind) {
            x.finish(9, S, true, start(9) + 2001);
        }
    }

    /** What is told last does not win by that. */
    private static void inWhichOrderTold() {
        RallyCard x = ready();
        check.same("the award first", x.award(5, S, 300), 300);
        check.same("then held up", x.held(5, S, true), 300);
        x.finish(5, S, false, start(5) + 4000);
        x.finish(4, S, true, start(4) + 1000);
        check.same("then finishes", x.time(5, S), 300);
        check.same("the notional time then", x.award(5, S, NONE), 1000);
        check.same("the own time then", x.held(5, S, false), 4000);
        x.finish(5, S, true, start(5) + 3000);
        check.same("the beam behind the hand", x.time(5, S), 3000);
        x.finish(5, S, false, start(5) + 2000);
        check.same("the hand behind the beam", x.time(5, S), 3000);
    }

    private static void neighbourWithAward() {
        check.promise("9 held, own times of others");
        RallyCard x = ready();
        x.finish(4, S, true, start(4) + 1000);
        x.finish(6, S, true, start(6) + 2000);
        check.same("the mean of both", x.held(5, S, true), 1500);
        x.award(4, S, 50000);
        check.same("by its own time, not by its award", x.time(5, S), 1500);
        x.award(7, S, 8);
        x.held(6, S, true);
        check.same("an award is none behind", x.time(5, S), 1000);
        check.same("the held one by the same neighbour", x.time(6, S), 1000);
    }

    private static void neighbourThatIsNext() {
        RallyCard x = ready();
        for (int car = 0; car < 10; car++) {
            x.finish(car, S, true, start(car) + 100 * car * car);
        }
        check.same("3 and 5", x.held(4, S, true), (900 + 2500) / 2);
        check.same("3 and 6", x.held(5, S, true), (900 + 3600) / 2);
        check.same("over one that was held up", x.time(4, S), (900 + 3600) / 2);
        check.same("the first one has none ahead", x.held(0, S, true), 100);
        check.same("the last one has none behind", x.held(9, S, true), 6400);
        check.same("the last but one has none behind then", x.held(8, S, true), 4900);
        check.same("nor has the last one a nearer one", x.time(9, S), 4900);
        x.retire(3, false);
        check.same("a retired one counts", x.time(4, S), (900 + 3600) / 2);
    }

    private static void notionalRoundedDown() {
        for (int more = 0; more < 4; more++) {
            RallyCard x = ready();
            x.finish(0, S, true, start(0) + 7);
            x.finish(2, S, true, start(2) + 7 + more);
            check.same("7 and " + (7 + more), x.held(1, S, true), 7 + more / 2);
        }
    }

    private static void notionalChangesLater() {
        RallyCard x = ready();
        check.same("none yet", x.held(1, S, true), NONE);
        x.finish(5, S, false, start(5) + 900);
        check.same("one far behind", x.time(1, S), 900);
        x.finish(3, S, true, start(3) + 800);
        check.same("a nearer one", x.time(1, S), 800);
        x.finish(0, S, true, start(0) + 600);
        check.same("one ahead, too", x.time(1, S), 700);
        x.finish(3, S, false, start(3) + 700);
        check.same("a mean does not matter to a beam", x.time(1, S), 700);
        x.held(3, S, true);
        check.same("by hand and the mean of 100", x.time(1, S), (600 + 1000) / 2);
    }

    private static void meanOfStageAlone() {
        check.promise("8 finish, the mean of all cars of this stage");
        RallyCard x = new RallyCard();
        x.item(RallyCard.LEG, 0);
        x.item(RallyCard.STAGE, 0);
        x.item(RallyCard.CONTROL, 10);
        x.item(RallyCard.STAGE, 0);
        x.open(0, RallyCard.NUMBERS);
        Rallies.stampInTime(x, 0, 0, 2);
        Rallies.stampInTime(x, 1, 0, 2);
        x.finish(0, 1, true, 600 * 3 + 500);
        x.finish(0, 1, false, 600 * 3 + 400);
        x.finish(1, 1, false, 600 * 5 + 400);
        x.finish(1, 3, false, 600 * 18 + 400);
        check.same("of this stage", x.time(1, 1), 500);
        check.same("of the other one there is none", x.time(1, 3), 400);
        x.finish(0, 3, true, 600 * 16 + 400);
        check.same("a beam alone makes no mean", x.time(1, 3), 400);
        x.finish(0, 3, false, 600 * 16 + 401);
        check.same("-1", x.time(1, 3), 399);
        check.same("of the first one still", x.time(1, 1), 500);
    }

    private static void totalByWhatWins() {
        check.promise("15 car, all times in stages");
        RallyCard x = ready();
        x.finish(0, S, true, start(0) + 1000);
        x.finish(2, S, true, start(2) + 2000);
        x.finish(1, S, true, start(1) + 9000);
        check.same("own", x.car(1, 4), 9000);
        x.held(1, S, true);
        check.same("notional", x.car(1, 4), 1500);
        x.award(1, S, 20);
        check.same("awarded", x.car(1, 4), 20);
        check.same("anew", x.totalAnew(1), 20);
        check.same("the best time is the award", x.car(3, 4), 6020);
        check.same("it leads by that", x.ranked(0), 1);
        x.award(1, S, NONE);
        check.same("the best time is an own one", x.car(3, 4), 7000);
        check.same("it does not lead any more", x.ranked(1), 1);
    }

    /** Told behind the retirement, or when the car is out: what is told last is reckoned with, too. */
    private static void bestOfAllCars() {
        check.promise("15 car, the best time of all cars");
        RallyCard x = ready();
        x.finish(1, S, true, start(1) + 900);
        check.same("of one that is ranked", x.car(0, 4), 6900);
        x.retire(2, false);
        x.finish(2, S, true, start(2) + 800);
        check.same("of one that is retired", x.car(0, 4), 6800);
        x.stamp(3, 3, 1000);
        x.finish(3, S, false, start(3) + 700);
        check.same("of one that is out", x.car(0, 4), 6700);
        check.same("anew", x.totalAnew(0), 6700);
        x.award(3, S, 600);
        check.same("its award", x.car(0, 4), 6600);
        x.held(3, S, true);
        check.same("its award still", x.car(0, 4), 6600);
        x.award(3, S, NONE);
        check.same("its notional time is the retired one's", x.car(0, 4), 6800);
        x.held(2, S, true);
        check.same("both are held up", x.car(0, 4), 6900);
        check.same("anew", x.totalAnew(0), 6900);
    }

    private static void meanOfAllCars() {
        check.promise("8 finish, the mean of all cars that have both");
        RallyCard x = ready();
        x.finish(0, S, false, start(0) + 1000);
        x.retire(1, true);
        x.finish(1, S, true, start(1) + 500);
        x.finish(1, S, false, start(1) + 490);
        check.same("of one that is retired", x.time(0, S), 1010);
        x.stamp(2, 3, 1000);
        x.finish(2, S, false, start(2) + 470);
        x.finish(2, S, true, start(2) + 500);
        check.same("and one that is out", x.time(0, S), 1020);
        x.finish(3, S, true, start(3) + 500);
        x.finish(3, S, false, start(3) + 450);
        check.same("and another one", x.time(0, S), 1030);
        x.held(3, S, true);
        x.award(2, S, 5);
        check.same("held up or not, with an award or without", x.time(0, S), 1030);
    }

    private static void fineBeforeAllocation() {
        check.promise("13 seen, once for each barcode");
        RallyCard x = new RallyCard();
        check.same("none is allocated", x.seen(0, 5), 600);
        check.same("then it is", x.allocate(0, 5), 1);
        check.same("seen as its own", x.seen(0, 5), 0);
        check.same("the fine stays", x.car(0, 0), 600);
        check.same("anew, too", x.totalAnew(0), 600);
        check.same("allocated first", x.allocate(0, 6), 2);
        check.same("then seen", x.seen(0, 6), 0);
        check.same("no fine", x.car(0, 0), 600);
    }

    /** Two stages behind one leg; all ten cars are stamped in time ahead of both. */
    private static RallyCard twoStages() {
        RallyCard x = new RallyCard();
        x.item(RallyCard.LEG, 0);
        x.item(RallyCard.STAGE, 0);
        x.item(RallyCard.CONTROL, 10);
        x.item(RallyCard.STAGE, 0);
        x.open(0, RallyCard.NUMBERS);
        for (int car = 0; car < 10; car++) {
            Rallies.stampInTime(x, car, 0, 2);
        }
        return x;
    }

    private static void award(RallyCard x, int car, int first, int second) {
        x.award(car, 1, first);
        x.award(car, 3, second);
    }

    private static void ranks(RallyCard x, int... cars) {
        for (int place = 0; place < cars.length; place++) {
            check.same("place " + place, x.ranked(place), cars[place]);
            check.same("car " + cars[place], x.car(cars[place], 5), place);
        }
    }

    private static void rankByTotal() {
        check.promise("17 ranked, by their totals");
        RallyCard x = twoStages();
        for (int car = 0; car < 10; car++) {
            award(x, car, 500, 500 - 10 * car);
        }
        ranks(x, 9, 8, 7, 6, 5, 4, 3, 2, 1, 0);
        x.seen(9, 1);
        ranks(x, 8, 7, 6, 5, 4, 3, 2, 1, 0, 9);
        award(x, 0, 499, 1);
        ranks(x, 0, 8, 7, 6, 5, 4, 3, 2, 1, 9);
    }

    private static void rankByFirstStage() {
        check.promise("17 ranked, then by their times in the first stage");
        RallyCard x = twoStages();
        for (int car = 0; car < 10; car++) {
            award(x, car, 100 - car, 100 + car);
        }
        ranks(x, 9, 8, 7, 6, 5, 4, 3, 2, 1, 0);
        award(x, 0, 99, 100);
        ranks(x, 0, 9, 8, 7, 6, 5, 4, 3, 2, 1);
    }

    private static void rankByLaterStage() {
        check.promise("17 ranked, then by the second one");
        RallyCard x = twoStages();
        for (int car = 0; car < 10; car++) {
            award(x, car, 100, 700);
        }
        x.seen(7, 1);
        award(x, 7, 100, 100);
        x.seen(4, 1);
        award(x, 4, 100, 100);
        ranks(x, 4, 7, 0, 1, 2, 3, 5, 6, 8, 9);
        award(x, 4, 101, 99);
        ranks(x, 7, 0, 1, 2, 3, 5, 6, 8, 9, 4);
    }

    /** A time that is as long as what stands for a missed stage is ahead of that all the same. */
    private static void rankNoneBehindAll() {
        check.promise("17 ranked, none being behind all");
        RallyCard x = twoStages();
        for (int car = 0; car < 10; car++) {
            award(x, car, 100, 100);
        }
        award(x, 2, NONE, 100);
        award(x, 6, 6100, 100);
        ranks(x, 0, 1, 3, 4, 5, 7, 8, 9, 6, 2);
        check.same("their totals are equal", x.car(2, 4), x.car(6, 4));
        award(x, 2, 100, NONE);
        award(x, 6, 100, 6100);
        ranks(x, 0, 1, 3, 4, 5, 7, 8, 9, 6, 2);
        award(x, 6, NONE, 100);
        ranks(x, 0, 1, 3, 4, 5, 7, 8, 9, 2, 6);
        award(x, 2, NONE, 100);
        ranks(x, 0, 1, 3, 4, 5, 7, 8, 9, 2, 6);
    }

    private static void rankByNumbers() {
        check.promise("17 ranked, then by numbers");
        RallyCard x = twoStages();
        ranks(x, 0, 1, 2, 3, 4, 5, 6, 7, 8, 9);
        for (int car = 9; car >= 0; car--) {
            award(x, car, 100, 100);
        }
        ranks(x, 0, 1, 2, 3, 4, 5, 6, 7, 8, 9);
    }

    private static void table(RallyCard x, int... cars) {
        for (int place = 0; place < cars.length; place++) {
            check.same("place " + place, x.table(place), cars[place]);
        }
    }

    private static void tableBySum() {
        check.promise("20 table, by sums");
        RallyCard x = new RallyCard();
        Rallies.close(x, 9, 8, 7, 6, 5, 4, 3, 2, 1, 0);
        table(x, 9, 8, 7, 6, 5, 4, 3, 2, 1, 0);
        Rallies.close(x, 7, 8);
        check.same("a win and a third place", x.points(7), 40);
        check.same("two second places", x.points(8), 36);
        table(x, 7, 8, 9, 6, 5, 4, 3, 2, 1, 0);
    }

    private static void tableByBest() {
        check.promise("20 table, then by the better best result");
        RallyCard x = new RallyCard();
        Rallies.close(x, 0, 1, 2, 3, 4, 5, 6, 7, 8, 9);
        Rallies.close(x, 0, 2, 9, 8, 7, 6, 5, 3, 4, 1);
        check.same("18 and 1", x.points(1), 19);
        check.same("12 and 4", x.points(3), 16);
        check.same("10 and 2", x.points(4), 12);
        check.same("4 and 10", x.points(7), 14);
        check.same("8 and 6", x.points(5), 14);
        check.same("6 and 8", x.points(6), 14);
        check.same("2 and 12", x.points(8), 14);
        check.same("1 and 15", x.points(9), 16);
        table(x, 0, 2, 1, 9, 3, 8, 7, 5, 6, 4);
    }

    private static void tableBySecondBest() {
        check.promise("20 table, then the better second one");
        RallyCard x = new RallyCard();
        Rallies.close(x, 0, 6);
        Rallies.close(x, 0, 2);
        Rallies.close(x, 0, 1, 3, 6, 2);
        Rallies.close(x, 0, 1, 3, 4, 5, 2, 6);
        check.same("18, 18, 0", x.points(1), 36);
        check.same("18, 12, 6", x.points(6), 36);
        check.same("18, 10, 8", x.points(2), 36);
        table(x, 0, 1, 6, 2, 3, 4, 5, 7, 8, 9);
        RallyCard y = new RallyCard();
        Rallies.close(y, 5, 4, 0, 1, 2, 3);
        Rallies.close(y, 4, 5, 0, 1, 2, 3);
        Rallies.close(y, 4, 5, 0, 1, 2, 3);
        Rallies.close(y, 5, 4, 0, 1, 2, 3);
        table(y, 4, 5, 0, 1, 2, 3);
        Rallies.close(y, 0, 5, 4);
        check.same("25, 25, 18, 18 less 18", y.points(5), 25 + 25 + 18 + 18);
        check.same("25, 25, 18, 18 less 15", y.points(4), 25 + 25 + 18 + 18);
        table(y, 5, 4, 0, 1, 2, 3);
    }

    /** Both have the same sum without the dropped one; that one is a place, or none. */
    private static void tableNoneBehindAll() {
        check.promise("20 table, none being behind all");
        RallyCard x = new RallyCard();
        Rallies.close(x, 1, 2);
        Rallies.close(x, 2, 1);
        table(x, 1, 2, 0);
        Rallies.close(x, 9, 8, 7, 6, 5, 4, 3, 0, 2);
        check.same("2 is dropped", x.points(2), 43);
        check.same("0 is dropped", x.points(1), 43);
        table(x, 2, 1, 9, 8, 7, 6, 5, 4, 3, 0);
    }

    private static void tableByNumbers() {
        check.promise("20 table, then by numbers");
        RallyCard x = new RallyCard();
        Rallies.close(x, 8, 3);
        Rallies.close(x, 3, 8);
        table(x, 3, 8, 0, 1, 2, 4, 5, 6, 7, 9);
        Rallies.close(x, 5);
        table(x, 3, 8, 5, 0, 1, 2, 4, 6, 7, 9);
    }
}
