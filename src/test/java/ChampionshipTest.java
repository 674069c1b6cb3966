/** Promises 18 to 20: close, points, table. */
public final class ChampionshipTest {
    private static final Check check = new Check();

    public static void main(String[] args) {
        closeRefuses();
        closeBeginsAnew();
        pointsByPlace();
        pointsOfRankedAlone();
        pointsDropped();
        tableBySums();
        tableByResults();
        tableByDroppedResults();
        tableRefuses();
        check.end();
    }

    private static void closeRefuses() {
        check.promise("18 close");
        RallyCard x = new RallyCard();
        check.fails(Check.STATE, "no itinerary", x::close);
        Rallies.layOneStage(x);
        check.fails(Check.STATE, "no leg opened", x::close);
        x.open(0, RallyCard.NUMBERS);
        check.same("one is over", x.close(), 1);
        check.fails(Check.STATE, "at once again", x::close);
        for (int over = 2; over <= 6; over++) {
            x.item(RallyCard.LEG, 0);
            x.open(0, RallyCard.NUMBERS);
            check.same("over", x.close(), over);
        }
        x.item(RallyCard.LEG, 0);
        x.open(0, RallyCard.NUMBERS);
        x.stamp(7, 0, 14);
        check.fails(Check.STATE, "six are over", x::close);
        check.same("the seventh stands", x.ranked(0), 7);
        check.same("without points", x.points(7), 0);
    }

    private static void closeBeginsAnew() {
        RallyCard x = Rallies.oneStage();
        Rallies.stampInTime(x, 0, 0, 1);
        x.finish(0, 2, true, 20000);
        x.delay(1, 1, 60);
        x.stamp(1, 0, 500);
        x.retire(2, false);
        x.allocate(3, 5);
        x.seen(3, 6);
        x.held(0, 2, true);
        x.award(0, 2, 77);
        check.same("over", x.close(), 1);
        check.fails(Check.INDEX, "no item", () -> x.due(0, 0));
        for (int car = 0; car < 10; car++) {
            for (int what = 0; what < 5; what++) {
                check.same("what " + what, x.car(car, what), 0);
            }
            check.same("place", x.car(car, 5), RallyCard.NONE);
            check.same("ranked", x.ranked(car), RallyCard.NONE);
            check.same("anew", x.totalAnew(car), 0);
        }
        Rallies.layOneStage(x);
        check.same("not open", x.starts(0, 0), RallyCard.NONE);
        x.open(0, RallyCard.NUMBERS);
        Rallies.stampInTime(x, 0, 0, 1);
        Rallies.stampInTime(x, 1, 0);
        check.same("no delay", x.due(1, 1), 17);
        check.same("no time", x.time(0, 2), RallyCard.NONE);
        x.finish(0, 2, true, 20000);
        check.same("no award, not held", x.time(0, 2), 20000 - 600 * 18);
        check.same("no tyre", x.allocate(3, 5), 1);
        check.same("not fined", x.seen(3, 6), 600);
    }

    private static void pointsByPlace() {
        check.promise("19 points");
        RallyCard x = new RallyCard();
        check.fails(Check.INDEX, "car -1", () -> x.points(-1));
        check.fails(Check.INDEX, "car 10", () -> x.points(10));
        Rallies.close(x, 9, 8, 7, 6, 5, 4, 3, 2, 1, 0);
        int[] points = {25, 18, 15, 12, 10, 8, 6, 4, 2, 1};
        for (int place = 0; place < 10; place++) {
            check.same("place " + place, x.points(9 - place), points[place]);
        }
    }

    private static void pointsOfRankedAlone() {
        RallyCard x = new RallyCard();
        x.item(RallyCard.LEG, 0);
        x.open(0, RallyCard.NUMBERS);
        for (int car = 0; car < 5; car++) {
            Rallies.stampInTime(x, car, 0);
        }
        x.retire(0, true);
        x.stamp(5, 0, 10 + 31);
        check.same("nothing ahead of the close", x.points(1), 0);
        x.close();
        check.same("retired", x.points(0), 0);
        check.same("out", x.points(5), 0);
        check.same("not stamped", x.points(6), 0);
        check.same("the first one", x.points(1), 25);
        check.same("the fourth one", x.points(4), 12);
    }

    private static void pointsDropped() {
        RallyCard x = new RallyCard();
        Rallies.close(x, 0, 1, 2);
        Rallies.close(x, 1, 0);
        check.same("none is dropped of two", x.points(2), 15);
        check.same("none is dropped of two", x.points(0), 43);
        Rallies.close(x, 3, 2, 1, 0);
        check.same("the least of 25, 18, 12", x.points(0), 43);
        check.same("the least of 18, 25, 15", x.points(1), 43);
        check.same("0 is the least", x.points(2), 33);
        check.same("one result", x.points(3), 25);
        Rallies.close(x, 0);
        check.same("one is dropped of four", x.points(0), 68);
        check.same("0 is dropped", x.points(1), 58);
        Rallies.close(x, 0);
        Rallies.close(x, 0);
        check.same("one is dropped of six", x.points(0), 25 * 4 + 18);
        check.same("no more than one", x.points(1), 58);
    }

    private static void tableBySums() {
        check.promise("20 table");
        RallyCard x = new RallyCard();
        Rallies.close(x, 9, 5, 7);
        tableIs(x, 9, 5, 7, 0, 1, 2, 3, 4, 6, 8);
        Rallies.close(x, 7, 5);
        tableIs(x, 7, 5, 9, 0, 1, 2, 3, 4, 6, 8);
    }

    private static void tableByResults() {
        RallyCard x = new RallyCard();
        Rallies.close(x, 4, 6);
        Rallies.close(x, 6, 4);
        tableIs(x, 4, 6, 0, 1, 2, 3, 5, 7, 8, 9);
        // 20 points of car 1 by places 3 and 5, and of car 2 by places 1, 8 and 9 with the last dropped
        RallyCard y = new RallyCard();
        Rallies.close(y, 0, 3, 4, 1, 5, 6, 7, 8, 9, 2);
        Rallies.close(y, 0, 3, 4, 5, 6, 1, 7, 8, 2);
        check.same("12 + 8", y.points(1), 20);
        check.same("1 + 2", y.points(2), 3);
        Rallies.close(y, 0, 2, 3, 4, 5, 6, 7);
        check.same("12 + 8", y.points(1), 20);
        check.same("18 + 2", y.points(2), 20);
        check.same("the better best result", place(y, 2) < place(y, 1) ? 1 : 0, 1);
    }

    /** Sums without the least are the same, and so are the best two; the third one is not. */
    private static void tableByDroppedResults() {
        RallyCard x = new RallyCard();
        Rallies.close(x, 0, 1);
        Rallies.close(x, 1, 0);
        Rallies.close(x, 2, 1);
        check.same("25 + 18", x.points(0), 43);
        check.same("25 + 18, 18 dropped", x.points(1), 43);
        tableIs(x, 1, 0, 2, 3, 4, 5, 6, 7, 8, 9);
    }

    private static void tableRefuses() {
        RallyCard x = new RallyCard();
        check.fails(Check.ARGUMENT, "place -1", () -> x.table(-1));
        check.fails(Check.ARGUMENT, "place 10", () -> x.table(10));
        tableIs(x, 0, 1, 2, 3, 4, 5, 6, 7, 8, 9);
    }

    private static int place(RallyCard x, int car) {
        for (int place = 0; place < 10; place++) {
            if (x.table(place) == car) {
                return place;
            }
        }
        return RallyCard.NONE;
    }

    private static void tableIs(RallyCard x, int... cars) {
        for (int place = 0; place < 10; place++) {
            check.same("place " + place, x.table(place), cars[place]);
        }
    }
}
