/** Promises 1 to 4: a new object, item, open, starts. */
public final class ItineraryTest {
    private static final Check check = new Check();

    public static void main(String[] args) {
        newObject();
        itemRanges();
        itemOrder();
        itemEnds();
        openRefuses();
        openFirstLeg();
        openFirstLegByRank();
        openLaterLeg();
        openFewerThanTurned();
        openForNone();
        openReturning();
        openWithoutReturning();
        startsPlaces();
        check.end();
    }

    private static void newObject() {
        check.promise("1 a new object");
        RallyCard x = new RallyCard();
        check.fails(Check.INDEX, "an item", () -> x.starts(0, 0));
        check.fails(Check.STATE, "close", x::close);
        for (int car = 0; car < 10; car++) {
            check.same("points", x.points(car), 0);
            check.same("table", x.table(car), car);
            check.same("ranked", x.ranked(car), RallyCard.NONE);
            check.same("penalties", x.car(car, 0), 0);
            check.same("late", x.car(car, 1), 0);
            check.same("out", x.car(car, 2), 0);
            check.same("retired", x.car(car, 3), 0);
            check.same("total", x.car(car, 4), 0);
            check.same("place", x.car(car, 5), RallyCard.NONE);
            check.same("total anew", x.totalAnew(car), 0);
        }
        check.same("first item", x.item(RallyCard.LEG, 0), 0);
    }

    private static void itemRanges() {
        check.promise("2 item");
        RallyCard x = new RallyCard();
        check.fails(Check.ARGUMENT, "kind -1", () -> x.item(-1, 0));
        check.fails(Check.ARGUMENT, "kind 3", () -> x.item(3, 0));
        check.fails(Check.ARGUMENT, "minutes -1", () -> x.item(RallyCard.LEG, -1));
        check.fails(Check.ARGUMENT, "minutes 2001", () -> x.item(RallyCard.LEG, 2001));
        check.fails(Check.ARGUMENT, "minutes of a stage, ahead of the state", () -> x.item(RallyCard.STAGE, 1));
        check.fails(Check.ARGUMENT, "kind, ahead of the state", () -> x.item(Integer.MAX_VALUE, 0));
        check.same("LEG of 2000", x.item(RallyCard.LEG, 2000), 0);
        check.same("CONTROL of 2000", x.item(RallyCard.CONTROL, 2000), 1);
        check.same("CONTROL of 0", x.item(RallyCard.CONTROL, 0), 2);
        check.fails(Check.ARGUMENT, "CONTROL of 2001", () -> x.item(RallyCard.CONTROL, 2001));
        check.fails(Check.ARGUMENT, "CONTROL of -1", () -> x.item(RallyCard.CONTROL, -1));
        check.fails(Check.ARGUMENT, "STAGE of -1", () -> x.item(RallyCard.STAGE, -1));
        check.same("STAGE of 0", x.item(RallyCard.STAGE, 0), 3);
    }

    private static void itemOrder() {
        RallyCard x = new RallyCard();
        check.fails(Check.STATE, "CONTROL first", () -> x.item(RallyCard.CONTROL, 5));
        check.fails(Check.STATE, "STAGE first", () -> x.item(RallyCard.STAGE, 0));
        check.same("LEG first", x.item(RallyCard.LEG, 5), 0);
        check.same("LEG behind LEG", x.item(RallyCard.LEG, 0), 1);
        check.same("STAGE behind LEG", x.item(RallyCard.STAGE, 0), 2);
        check.fails(Check.STATE, "STAGE behind STAGE", () -> x.item(RallyCard.STAGE, 0));
        check.fails(Check.STATE, "LEG behind STAGE", () -> x.item(RallyCard.LEG, 5));
        check.same("CONTROL behind STAGE", x.item(RallyCard.CONTROL, 5), 3);
        check.same("CONTROL behind CONTROL", x.item(RallyCard.CONTROL, 5), 4);
        check.same("STAGE behind CONTROL", x.item(RallyCard.STAGE, 0), 5);
        check.same("CONTROL again", x.item(RallyCard.CONTROL, 5), 6);
        check.same("LEG behind CONTROL", x.item(RallyCard.LEG, 5), 7);
    }

    private static void itemEnds() {
        RallyCard x = new RallyCard();
        x.item(RallyCard.LEG, 0);
        for (int item = 1; item < 20; item++) {
            check.same("number", x.item(RallyCard.CONTROL, 1), item);
        }
        for (int kind = 0; kind < 3; kind++) {
            int itsKind = kind;
            check.fails(Check.STATE, "a 21st", () -> x.item(itsKind, 0));
        }
        check.fails(Check.ARGUMENT, "a 21st of 2001", () -> x.item(RallyCard.LEG, 2001));
        check.same("it opens", x.open(0, RallyCard.NUMBERS), 10);
        check.same("the last one stands", x.due(0, 19), RallyCard.NONE);
        check.fails(Check.INDEX, "there is no more", () -> x.due(0, 20));
    }

    private static void openRefuses() {
        check.promise("3 open");
        RallyCard x = Rallies.twoLegs();
        check.fails(Check.INDEX, "item -1", () -> x.open(-1, 0));
        check.fails(Check.INDEX, "item 6", () -> x.open(6, 0));
        check.fails(Check.INDEX, "item 20, ahead of the kind", () -> x.open(20, 3));
        check.fails(Check.ARGUMENT, "kind -1", () -> x.open(0, -1));
        check.fails(Check.ARGUMENT, "kind 3", () -> x.open(0, 3));
        check.fails(Check.ARGUMENT, "kind 3, ahead of the state", () -> x.open(3, 3));
        check.fails(Check.ARGUMENT, "a STAGE", () -> x.open(1, 0));
        check.fails(Check.ARGUMENT, "a CONTROL", () -> x.open(2, 0));
        check.fails(Check.STATE, "the later leg first", () -> x.open(3, 0));
        check.same("not open", x.starts(3, 0), RallyCard.NONE);
        check.same("the first leg", x.open(0, RallyCard.NUMBERS), 10);
        check.fails(Check.STATE, "the first leg again", () -> x.open(0, RallyCard.REVERSED));
        check.same("its order stands", x.starts(0, 0), 0);
        check.same("the later leg", x.open(3, RallyCard.NUMBERS), 0);
        check.fails(Check.STATE, "the later leg again, without a car", () -> x.open(3, RallyCard.NUMBERS));
        check.promise("2 item");
        check.fails(Check.STATE, "a leg is open", () -> x.item(RallyCard.CONTROL, 1));
        check.fails(Check.ARGUMENT, "its range, if a leg is open", () -> x.item(RallyCard.STAGE, 1));
    }

    private static void openFirstLeg() {
        check.promise("3 open");
        RallyCard x = Rallies.twoLegs();
        x.retire(3, true);
        x.retire(4, false);
        check.same("all cars", x.open(0, RallyCard.NUMBERS), 10);
        order(x, 0, 0, 1, 2, 3, 4, 5, 6, 7, 8, 9);
        check.same("retired still", x.car(3, 3), 1);
        check.fails(Check.STATE, "the retired one's stamp", () -> x.stamp(3, 0, 6));
    }

    private static void openFirstLegByRank() {
        for (int kind = RallyCard.NUMBERS; kind <= RallyCard.REVERSED; kind++) {
            RallyCard x = Rallies.twoLegs();
            x.seen(0, 1);
            x.seen(0, 2);
            x.seen(4, 7);
            x.retire(1, true);
            x.retire(4, false);
            check.same("all cars", x.open(0, kind), 10);
            if (kind == RallyCard.NUMBERS) {
                order(x, 0, 0, 1, 2, 3, 4, 5, 6, 7, 8, 9);
            } else if (kind == RallyCard.RANK) {
                order(x, 0, 1, 2, 3, 5, 6, 7, 8, 9, 4, 0);
            } else {
                order(x, 0, 6, 5, 3, 2, 1, 7, 8, 9, 4, 0);
            }
        }
    }

    /** Cars 0 to 7 drive, the higher the number, the faster; 8 is not stamped, 9 goes out. */
    private static RallyCard driven() {
        RallyCard x = Rallies.twoLegs();
        x.open(0, RallyCard.NUMBERS);
        for (int car = 0; car < 8; car++) {
            Rallies.drive(x, car, 1000 - 10 * car);
        }
        x.stamp(9, 0, 18 + 31);
        return x;
    }

    private static void openLaterLeg() {
        RallyCard numbers = driven();
        check.same("by numbers", numbers.open(3, RallyCard.NUMBERS), 8);
        order(numbers, 3, 0, 1, 2, 3, 4, 5, 6, 7);
        RallyCard rank = driven();
        check.same("by rank", rank.open(3, RallyCard.RANK), 8);
        order(rank, 3, 7, 6, 5, 4, 3, 2, 1, 0);
        RallyCard reversed = driven();
        check.same("reversed", reversed.open(3, RallyCard.REVERSED), 8);
        order(reversed, 3, 3, 4, 5, 6, 7, 2, 1, 0);
        Rallies.stampInTime(reversed, 8, 0);
        check.same("an order stands when ranks change", reversed.starts(3, 8), RallyCard.NONE);
        check.fails(Check.STATE, "not in the order", () -> reversed.stamp(8, 3, 100));
    }

    private static void openFewerThanTurned() {
        for (int count = 1; count <= 6; count++) {
            RallyCard x = Rallies.twoLegs();
            x.open(0, RallyCard.NUMBERS);
            for (int car = 0; car < count; car++) {
                Rallies.drive(x, car, 500 + car);
            }
            check.same("how many", x.open(3, RallyCard.REVERSED), count);
            int turned = Math.min(count, 5);
            for (int place = 0; place < count; place++) {
                check.same("of " + count, x.starts(3, place), place < turned ? turned - 1 - place : place);
            }
            check.same("no more", x.starts(3, count), RallyCard.NONE);
        }
    }

    private static void openForNone() {
        RallyCard x = new RallyCard();
        x.item(RallyCard.LEG, 0);
        x.item(RallyCard.LEG, 0);
        x.item(RallyCard.LEG, 0);
        x.open(0, RallyCard.RANK);
        check.fails(Check.STATE, "one leg left out", () -> x.open(2, RallyCard.RANK));
        check.same("nobody", x.open(1, RallyCard.REVERSED), 0);
        check.same("the third one", x.open(2, RallyCard.RANK), 0);
    }

    private static void openReturning() {
        for (int kind = RallyCard.NUMBERS; kind <= RallyCard.REVERSED; kind++) {
            RallyCard x = driven();
            x.retire(6, true);
            x.retire(1, true);
            x.retire(4, false);
            x.retire(8, true);
            check.same("with those that return", x.open(3, kind), 7);
            if (kind == RallyCard.NUMBERS) {
                order(x, 3, 0, 2, 3, 5, 7, 1, 6);
            } else if (kind == RallyCard.RANK) {
                order(x, 3, 7, 5, 3, 2, 0, 1, 6);
            } else {
                order(x, 3, 0, 2, 3, 5, 7, 1, 6);
            }
            check.same("no more retired", x.car(1, 3), 0);
            check.same("no more retired", x.car(6, 3), 0);
            check.same("asked for nothing", x.car(4, 3), 1);
            check.same("was not at the first leg", x.car(8, 3), 1);
            check.same("ranked again", x.car(6, 5), 1);
        }
    }

    /** A car that is out cannot return; one that returned can retire and return once more. */
    private static void openWithoutReturning() {
        RallyCard x = new RallyCard();
        x.item(RallyCard.LEG, 0);
        x.item(RallyCard.LEG, 100);
        x.item(RallyCard.LEG, 200);
        x.open(0, RallyCard.NUMBERS);
        Rallies.stampInTime(x, 0, 0);
        Rallies.stampInTime(x, 1, 0);
        x.retire(0, true);
        x.retire(1, true);
        check.same("both return", x.open(1, RallyCard.REVERSED), 2);
        order(x, 1, 0, 1);
        x.retire(0, true);
        x.retire(1, false);
        check.same("one returns again", x.open(2, RallyCard.RANK), 1);
        order(x, 2, 0);
        check.same("the other one is retired", x.car(1, 3), 1);
    }

    private static void startsPlaces() {
        check.promise("4 starts");
        RallyCard x = Rallies.twoLegs();
        check.fails(Check.INDEX, "item -1", () -> x.starts(-1, 0));
        check.fails(Check.INDEX, "item 6, ahead of the place", () -> x.starts(6, 10));
        check.fails(Check.ARGUMENT, "place -1", () -> x.starts(0, -1));
        check.fails(Check.ARGUMENT, "place 10", () -> x.starts(0, 10));
        check.fails(Check.ARGUMENT, "a STAGE", () -> x.starts(1, 0));
        check.fails(Check.ARGUMENT, "a CONTROL", () -> x.starts(2, 0));
        check.same("not open", x.starts(0, 0), RallyCard.NONE);
        check.same("not open", x.starts(0, 9), RallyCard.NONE);
        x.open(0, RallyCard.REVERSED);
        order(x, 0, 4, 3, 2, 1, 0, 5, 6, 7, 8, 9);
        Rallies.stampInTime(x, 2, 0);
        x.open(3, RallyCard.NUMBERS);
        order(x, 3, 2);
        check.same("no place 9", x.starts(3, 9), RallyCard.NONE);
    }

    private static void order(RallyCard x, int leg, int... cars) {
        for (int place = 0; place < 10; place++) {
            int want = place < cars.length ? cars[place] : RallyCard.NONE;
            check.same("leg " + leg + ", place " + place, x.starts(leg, place), want);
        }
    }
}
