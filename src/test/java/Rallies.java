/** Rallies that several tests begin with. */
final class Rallies {
    private Rallies() {
    }

    /** A LEG at minute 10, a CONTROL of 5, a STAGE, a CONTROL of 20; the leg is open by numbers. */
    static RallyCard oneStage() {
        RallyCard x = new RallyCard();
        layOneStage(x);
        x.open(0, RallyCard.NUMBERS);
        return x;
    }

    static void layOneStage(RallyCard x) {
        x.item(RallyCard.LEG, 10);
        x.item(RallyCard.CONTROL, 5);
        x.item(RallyCard.STAGE, 0);
        x.item(RallyCard.CONTROL, 20);
    }

    /** Twice a LEG (0, 3; minutes 0 and 100), a STAGE (1, 4) and a CONTROL of 10 (2, 5). */
    static RallyCard twoLegs() {
        RallyCard x = new RallyCard();
        for (int minute = 0; minute <= 100; minute += 100) {
            x.item(RallyCard.LEG, minute);
            x.item(RallyCard.STAGE, 0);
            x.item(RallyCard.CONTROL, 10);
        }
        return x;
    }

    /** Stamps a car at each of the controls at the minute at which it is due there. */
    static void stampInTime(RallyCard x, int car, int... controls) {
        for (int control : controls) {
            x.stamp(car, control, x.due(car, control));
        }
    }

    /** Lets a car of twoLegs drive the stage of the first leg in some tenths. */
    static void drive(RallyCard x, int car, int tenths) {
        stampInTime(x, car, 0);
        x.finish(car, 1, true, 600 * (x.due(car, 0) + 3) + tenths);
    }

    /** Closes a rally in which the cars are ranked as they are named. */
    static void close(RallyCard x, int... cars) {
        x.item(RallyCard.LEG, 100);
        x.open(0, RallyCard.NUMBERS);
        for (int place = 0; place < cars.length; place++) {
            x.stamp(cars[place], 0, x.due(cars[place], 0) + place);
        }
        x.close();
    }
}
