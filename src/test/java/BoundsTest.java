/** The numbers that "Terms" names, each at it, just below it and just above it. */
public final class BoundsTest {
    private static final Check check = new Check();

    public static void main(String[] args) {
        minutesOfLegs();
        minutesOfControls();
        minutesOfStamps();
        twoMinutesApart();
        threeMinutesForAStage();
        penaltyOfAMinute();
        thirtyMinutesAtOnce();
        thirtyMinutesInAll();
        thirtyMinutesBesideOthers();
        thirtyMinutesOverLegs();
        outForGood();
        sixHundredTenthsAMinute();
        sixTyres();
        barcodes();
        sixThousandForAStage();
        firstFiveOfLaterLeg();
        firstFiveOfFirstLeg();
        firstFiveWithoutReturning();
        tenPlacesOfPoints();
        leastOfThree();
        leastOnce();
        sixRallies();
        check.end();
    }

    /** A LEG and a CONTROL behind it. */
    private static RallyCard open(int minute, int minutes) {
        RallyCard x = new RallyCard();
        x.item(RallyCard.LEG, minute);
        x.item(RallyCard.CONTROL, minutes);
        x.open(0, RallyCard.NUMBERS);
        return x;
    }

    private static void minutesOfLegs() {
        check.promise("a LEG's minute");
        check.same("0", open(0, 0).due(0, 0), 0);
        check.same("1", open(1, 0).due(0, 0), 1);
        check.same("1999", open(1999, 0).due(0, 0), 1999);
        check.same("2000", open(2000, 0).due(0, 0), 2000);
        check.same("behind the last minute", open(2000, 0).due(9, 0), 2018);
    }

    private static void minutesOfControls() {
        check.promise("a CONTROL's minutes");
        for (int minutes : new int[] {0, 1, 1999, 2000}) {
            RallyCard x = open(7, minutes);
            x.stamp(0, 0, 11);
            check.same("of " + minutes, x.due(0, 1), 11 + minutes);
        }
        RallyCard x = open(2000, 2000);
        x.stamp(9, 0, 2000);
        check.same("far behind the last minute", x.due(9, 1), 4000);
        check.same("stamped as late as can be", x.stamp(9, 1, 2000), 600 * 2000);
    }

    private static void minutesOfStamps() {
        check.promise("6 stamp, its minute");
        check.same("0, due at 0", open(0, 0).stamp(0, 0, 0), 0);
        check.same("1, due at 0", open(0, 0).stamp(0, 0, 1), 100);
        check.same("0, due at 1", open(1, 0).stamp(0, 0, 0), 600);
        check.same("2000, due at 2000", open(2000, 0).stamp(0, 0, 2000), 0);
        check.same("1999, due at 2000", open(2000, 0).stamp(0, 0, 1999), 600);
        check.same("2000, due at 1999", open(1999, 0).stamp(0, 0, 2000), 100);
        check.same("2000, due at 0", open(0, 0).stamp(0, 0, 2000), 200000);
        check.same("0, due at 2018", open(2000, 0).stamp(9, 0, 0), 600 * 2018);
        RallyCard x = open(2000, 2000);
        x.stamp(0, 0, 2000);
        x.delay(1, 0, 60);
        check.same("0, due at 4060", x.stamp(0, 1, 0), 600 * 4060);
        check.same("kept", x.car(0, 0), 600 * 4060);
    }

    private static void twoMinutesApart() {
        check.promise("2 times the place");
        RallyCard x = open(100, 0);
        for (int place = 0; place < 10; place++) {
            check.same("place " + place, x.due(x.starts(0, place), 0), 100 + 2 * place);
        }
    }

    private static void threeMinutesForAStage() {
        check.promise("3 more with a STAGE between");
        RallyCard x = new RallyCard();
        x.item(RallyCard.LEG, 0);
        x.item(RallyCard.CONTROL, 0);
        x.item(RallyCard.STAGE, 0);
        x.item(RallyCard.CONTROL, 0);
        x.item(RallyCard.CONTROL, 0);
        x.open(0, RallyCard.NUMBERS);
        x.stamp(0, 0, 0);
        check.same("none between", x.due(0, 1), 0);
        x.stamp(0, 1, 0);
        check.same("one between", x.due(0, 3), 3);
        x.stamp(0, 3, 4);
        check.same("none between, behind a stage", x.due(0, 4), 4);
    }

    private static void penaltyOfAMinute() {
        check.promise("100 for a minute late, 600 for one early");
        int[] minutes = {0, 1, 9, 10, 11, 12, 20};
        int[] penalties = {6000, 5400, 600, 0, 100, 200, 1000};
        for (int n = 0; n < minutes.length; n++) {
            RallyCard x = open(10, 0);
            check.same("at " + minutes[n], x.stamp(0, 0, minutes[n]), penalties[n]);
            check.same("kept", x.car(0, 0), penalties[n]);
            check.same("total", x.car(0, 4), penalties[n]);
            check.same("late", x.car(0, 1), Math.max(0, minutes[n] - 10));
        }
    }

    private static void isOut(String what, RallyCard x, int car, int late, boolean isOut) {
        check.same(what + ": late", x.car(car, 1), late);
        check.same(what + ": out", x.car(car, 2), isOut ? 1 : 0);
        check.same(what + ": ranked", x.car(car, 5) == RallyCard.NONE ? 1 : 0, isOut ? 1 : 0);
        check.same(what + ": not retired by that", x.car(car, 3), 0);
    }

    private static void thirtyMinutesAtOnce() {
        check.promise("late by more than 30 minutes");
        for (int late = 29; late <= 32; late++) {
            RallyCard x = open(10, 50);
            check.same("the penalty is told in any case", x.stamp(4, 0, 18 + late), 100 * late);
            isOut("at once " + late, x, 4, late, late > 30);
            check.same("due at the next one", x.due(4, 1), late > 30 ? RallyCard.NONE : 18 + late + 50);
        }
    }

    private static void thirtyMinutesInAll() {
        for (int last = 9; last <= 11; last++) {
            RallyCard x = open(10, 5);
            x.stamp(0, 0, 10 + 20);
            isOut("some", x, 0, 20, false);
            x.stamp(0, 1, 35 + last);
            isOut("in all", x, 0, 20 + last, last > 10);
        }
    }

    /** Early minutes take no late ones away, a delay and a tyre's penalty make none. */
    private static void thirtyMinutesBesideOthers() {
        RallyCard x = Rallies.oneStage();
        x.seen(0, 1);
        x.stamp(0, 0, 10 + 30);
        x.stamp(0, 1, 45 - 40);
        isOut("much too early", x, 0, 30, false);
        x.delay(3, 0, 60);
        check.same("due with the delay", x.due(0, 3), 5 + 3 + 20 + 60);
        x.stamp(0, 3, 88);
        isOut("in time by the delay", x, 0, 30, false);
        x.stamp(1, 0, 12 - 10);
        x.stamp(1, 1, 7 + 31);
        isOut("early first, then late", x, 1, 31, true);
        x.delay(1, 2, 20);
        x.stamp(2, 0, 14);
        x.stamp(2, 1, 19 + 20 + 31);
        isOut("more than its delay", x, 2, 31, true);
    }

    private static void thirtyMinutesOverLegs() {
        RallyCard x = Rallies.twoLegs();
        x.open(0, RallyCard.NUMBERS);
        x.stamp(0, 0, 15);
        x.open(3, RallyCard.NUMBERS);
        x.stamp(0, 3, 115);
        isOut("of both legs", x, 0, 30, false);
        x.stamp(0, 2, 28 + 1);
        isOut("by the earlier leg's control", x, 0, 31, true);
        check.same("due in the later leg", x.due(0, 5), RallyCard.NONE);
    }

    private static void outForGood() {
        RallyCard x = Rallies.twoLegs();
        x.open(0, RallyCard.NUMBERS);
        x.stamp(0, 0, 31);
        x.stamp(1, 0, 2);
        x.retire(1, true);
        check.same("a delay is given to it", x.delay(2, 0, 60), 10);
        isOut("but brings it not back", x, 0, 31, true);
        check.same("nor does a later leg", x.open(3, RallyCard.NUMBERS), 1);
        check.same("that is for the retired one", x.starts(3, 0), 1);
        isOut("out", x, 0, 31, true);
        check.fails(Check.STATE, "stamped at the later leg", () -> x.stamp(0, 3, 100));
        check.fails(Check.STATE, "retire", () -> x.retire(0, true));
    }

    private static void sixHundredTenthsAMinute() {
        check.promise("8 finish, at least 600 times the minute at which it starts");
        RallyCard x = Rallies.oneStage();
        x.stamp(0, 0, 10);
        x.stamp(0, 1, 0);
        check.fails(Check.STATE, "less by the beam", () -> x.finish(0, 2, true, 1799));
        check.fails(Check.STATE, "less by hand", () -> x.finish(0, 2, false, 1799));
        x.finish(0, 2, false, 1800);
        check.same("just that by hand", x.time(0, 2), 0);
        x.finish(0, 2, true, 1800);
        check.same("just that by the beam", x.time(0, 2), 0);
        x.finish(0, 2, true, 1801);
        check.same("one more", x.time(0, 2), 1);
        x.stamp(1, 0, 12);
        x.stamp(1, 1, 2000);
        check.fails(Check.STATE, "less than the last start", () -> x.finish(1, 2, true, 600 * 2003 - 1));
        x.finish(1, 2, true, 600 * 2003);
        check.same("the last start", x.time(1, 2), 0);
    }

    private static void sixTyres() {
        check.promise("12 allocate, at most 6");
        RallyCard x = new RallyCard();
        for (int n = 0; n < 6; n++) {
            check.same("how many", x.allocate(0, 10 * n), n + 1);
        }
        check.fails(Check.STATE, "a seventh", () -> x.allocate(0, 60));
        for (int n = 0; n < 6; n++) {
            check.same("one of the six is seen", x.seen(0, 10 * n), 0);
        }
        check.same("the seventh is seen", x.seen(0, 60), 600);
        check.same("another car has none", x.allocate(1, 0), 1);
    }

    private static void barcodes() {
        check.promise("13 seen, barcodes 0 to 99");
        RallyCard x = new RallyCard();
        x.allocate(4, 0);
        x.allocate(4, 99);
        int sum = 0;
        for (int barcode = 0; barcode <= 99; barcode++) {
            int want = barcode == 0 || barcode == 99 ? 0 : 600;
            check.same("seen " + barcode, x.seen(4, barcode), want);
            check.same("seen again", x.seen(4, barcode), 0);
            sum += want;
            check.same("penalties", x.car(4, 0), sum);
        }
        check.same("anew", x.totalAnew(4), 98 * 600);
        check.same("no other car's", x.car(3, 0) + x.car(5, 0), 0);
    }

    private static void sixThousandForAStage() {
        check.promise("the best time and 6000");
        RallyCard x = Rallies.twoLegs();
        x.open(0, RallyCard.NUMBERS);
        for (int car = 0; car < 3; car++) {
            Rallies.stampInTime(x, car, 0);
        }
        check.same("none has a time", x.car(0, 4), 0);
        x.award(1, 1, 300);
        check.same("another one has", x.car(0, 4), 6300);
        check.same("the one that has", x.car(1, 4), 300);
        x.award(2, 1, 299);
        check.same("a better one", x.car(0, 4), 6299);
        x.award(0, 1, 6299);
        check.same("its own time instead", x.car(0, 4), 6299);
        x.award(0, 1, RallyCard.NONE);
        x.award(1, 1, RallyCard.NONE);
        x.award(2, 1, RallyCard.NONE);
        check.same("none has a time any more", x.car(0, 4), 0);
    }

    /** As many as are told are stamped at the first LEG, the one with the highest number is the best. */
    private static RallyCard ranked(int count) {
        RallyCard x = Rallies.twoLegs();
        x.open(0, RallyCard.NUMBERS);
        for (int car = 0; car < count; car++) {
            x.stamp(car, 0, 2 * car + (count - 1 - car));
        }
        return x;
    }

    private static void firstFiveOfLaterLeg() {
        check.promise("3 open, the first five of a reversed order");
        int[][] orders = {
            {}, {0}, {0, 1}, {0, 1, 2}, {0, 1, 2, 3}, {0, 1, 2, 3, 4}, {1, 2, 3, 4, 5, 0},
            {2, 3, 4, 5, 6, 1, 0}, {3, 4, 5, 6, 7, 2, 1, 0}, {4, 5, 6, 7, 8, 3, 2, 1, 0},
            {5, 6, 7, 8, 9, 4, 3, 2, 1, 0}};
        for (int count = 0; count <= 10; count++) {
            RallyCard reversed = ranked(count);
            check.same("how many", reversed.open(3, RallyCard.REVERSED), count);
            RallyCard rank = ranked(count);
            check.same("how many", rank.open(3, RallyCard.RANK), count);
            RallyCard numbers = ranked(count);
            check.same("how many", numbers.open(3, RallyCard.NUMBERS), count);
            for (int place = 0; place < 10; place++) {
                boolean isIn = place < count;
                String what = place + " of " + count;
                check.same("reversed " + what, reversed.starts(3, place), isIn ? orders[count][place] : RallyCard.NONE);
                check.same("by rank " + what, rank.starts(3, place), isIn ? count - 1 - place : RallyCard.NONE);
                check.same("by numbers " + what, numbers.starts(3, place), isIn ? place : RallyCard.NONE);
            }
        }
    }

    /** At the first LEG all are in the order, as if all were ranked: by penalties, then by numbers. */
    private static void firstFiveOfFirstLeg() {
        int[] reversed = {5, 4, 2, 1, 0, 7, 8, 9, 6, 3};
        int[] rank = {0, 1, 2, 4, 5, 7, 8, 9, 6, 3};
        for (int kind = RallyCard.RANK; kind <= RallyCard.REVERSED; kind++) {
            RallyCard x = Rallies.twoLegs();
            x.seen(3, 0);
            x.seen(3, 1);
            x.seen(6, 0);
            x.retire(0, false);
            check.same("all", x.open(0, kind), 10);
            for (int place = 0; place < 10; place++) {
                check.same("place " + place, x.starts(0, place), (kind == RallyCard.RANK ? rank : reversed)[place]);
            }
        }
    }

    /** Those that start again are not turned round with the others, even if these are fewer than five. */
    private static void firstFiveWithoutReturning() {
        int[][] orders = {{0, 1, 2, 3, 4, 5}, {5, 0, 1, 2, 3, 4}, {4, 5, 0, 1, 2, 3}, {3, 4, 5, 0, 1, 2},
            {2, 3, 4, 5, 0, 1}, {1, 2, 3, 4, 5, 0}, {1, 2, 3, 4, 5, 0}};
        for (int left = 0; left <= 6; left++) {
            RallyCard x = ranked(6);
            for (int car = 5 - left; car >= 0; car--) {
                x.retire(car, true);
            }
            check.same("all six", x.open(3, RallyCard.REVERSED), 6);
            for (int place = 0; place < 6; place++) {
                check.same(left + " ranked, place " + place, x.starts(3, place), orders[left][place]);
            }
            check.same("no seventh", x.starts(3, 6), RallyCard.NONE);
        }
    }

    private static void tenPlacesOfPoints() {
        check.promise("18 close, the points");
        int[] points = {25, 18, 15, 12, 10, 8, 6, 4, 2, 1};
        for (int count = 0; count <= 10; count++) {
            RallyCard x = ranked(count);
            x.close();
            for (int car = 0; car < 10; car++) {
                check.same("of " + count, x.points(car), car < count ? points[count - 1 - car] : 0);
            }
        }
    }

    private static void leastOfThree() {
        check.promise("19 points, less the least once at least three are over");
        int[] sums = {25, 25 + 18, 25 + 18, 25 + 18 + 15, 25 + 18 + 15 + 12, 25 + 18 + 15 + 12 + 10};
        RallyCard x = new RallyCard();
        int[][] ranks = {{0}, {1, 0}, {1, 2, 0}, {1, 2, 3, 0}, {1, 2, 3, 4, 0}, {1, 2, 3, 4, 5, 0}};
        for (int over = 1; over <= 6; over++) {
            Rallies.close(x, ranks[over - 1]);
            check.same("the least was last, of " + over, x.points(0), sums[over - 1]);
        }
        RallyCard y = new RallyCard();
        int[] turned = {8, 8 + 10, 10 + 12, 10 + 12 + 15, 10 + 12 + 15 + 18, 10 + 12 + 15 + 18 + 25};
        for (int over = 1; over <= 6; over++) {
            Rallies.close(y, ranks[6 - over]);
            check.same("the least was first, of " + over, y.points(0), turned[over - 1]);
        }
    }

    /** Of several that are the least, just one is dropped; one in which it was not ranked is the least. */
    private static void leastOnce() {
        RallyCard x = new RallyCard();
        for (int over = 1; over <= 6; over++) {
            Rallies.close(x, 0);
            check.same("the same each time, of " + over, x.points(0), 25 * (over < 3 ? over : over - 1));
            check.same("never ranked", x.points(9), 0);
        }
        RallyCard y = new RallyCard();
        Rallies.close(y, 1);
        Rallies.close(y, 0);
        check.same("0 and 25", y.points(0), 25);
        Rallies.close(y, 0);
        check.same("the 0 is dropped", y.points(0), 50);
        Rallies.close(y, 1);
        check.same("one 0 is dropped of two", y.points(0), 50);
        Rallies.close(y, 1, 2, 3, 4, 5, 6, 7, 8, 9, 0);
        check.same("1 for the tenth, a 0 is dropped", y.points(0), 51);
    }

    private static void sixRallies() {
        check.promise("18 close, at most 6 rallies");
        RallyCard x = new RallyCard();
        for (int over = 1; over <= 6; over++) {
            Rallies.close(x, over);
            check.same("points", x.points(over), 25);
        }
        Script seventh = new Script().call("item", 0, 5).call("open", 0, 0).call("stamp", 9, 0, 23);
        check.same("a seventh can be driven", seventh.answersOf(x).toString(),
                "[item[0, 5] = 0, open[0, 0] = 10, stamp[9, 0, 23] = 0]");
        check.fails(Check.STATE, "but not closed", x::close);
        check.same("it gives no points", x.points(9), 0);
        check.same("it stands", x.ranked(0), 9);
    }
}
