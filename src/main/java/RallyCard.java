import java.util.Arrays;

/**
 * Cars against clocks: a rally's itinerary, cards, stages, tyres, ranks and starting orders, and a
 * championship of up to six rallies.
 */
public final class RallyCard {
    public static final int NONE = -1;
    public static final int LEG = 0, CONTROL = 1, STAGE = 2;
    public static final int NUMBERS = 0, RANK = 1, REVERSED = 2;

    private static final int CARS = 10;
    private static final int ITEMS = 20;
    private static final int LAST_MINUTE = 2000;
    private static final int START_GAP = 2;
    private static final int STAGE_WAIT = 3;
    private static final int LATE_PENALTY = 100;
    private static final int EARLY_PENALTY = 600;
    private static final int LATE_LIMIT = 30;
    private static final int LONGEST_DELAY = 60;
    private static final int MINUTE_TENTHS = 600;
    private static final int LAST_FINISH = 2000000;
    private static final int LONGEST_AWARD = 99999;
    private static final int MISSED_STAGE = 6000;
    private static final int BARCODES = 100;
    private static final int TYRES = 6;
    private static final int TYRE_PENALTY = 600;
    private static final int TURNED_ROUND = 5;
    private static final int RALLIES = 6;
    private static final int RALLIES_TO_DROP = 3;
    private static final int[] POINTS = {25, 18, 15, 12, 10, 8, 6, 4, 2, 1};

    private final Season season = new Season();
    private Rally rally = Rally.begin();

    /** Begins without an itinerary. */
    public RallyCard() {
    }

    // ---- itinerary

    /** Adds an item and returns its number. */
    public int item(int kind, int minutes) throws IllegalArgumentException, IllegalStateException {
        needRange(kind, LEG, STAGE);
        needRange(minutes, 0, kind == STAGE ? 0 : LAST_MINUTE);
        if (rally.isBegun() || !rally.itinerary.takes(kind)) {
            throw new IllegalStateException("the itinerary does not take this item");
        }
        return rally.itinerary.add(kind, minutes);
    }

    /** Opens a leg and returns how many cars are in its order. */
    public int open(int item, int kind)
            throws IndexOutOfBoundsException, IllegalArgumentException, IllegalStateException {
        needItem(item);
        needRange(kind, NUMBERS, REVERSED);
        needKind(item, LEG);
        if (!rally.isNextLeg(item)) {
            throw new IllegalStateException("this leg is open, or an earlier one is not");
        }
        return rally.makeOrder(item, kind);
    }

    /** Returns which car has a place in the order of a leg, or NONE. */
    public int starts(int item, int place) throws IndexOutOfBoundsException, IllegalArgumentException {
        needItem(item);
        needRange(place, 0, CARS - 1);
        needKind(item, LEG);
        return rally.orders.carAt(item, place);
    }

    // ---- cards

    /** Returns the minute at which a car is due at a control, or NONE. */
    public int due(int car, int item) throws IndexOutOfBoundsException, IllegalArgumentException {
        needCar(car);
        needItem(item);
        needControl(item);
        return rally.cards.isRunning(car) ? rally.cards.dueAt(car, item) : NONE;
    }

    /** Stamps a card and returns the penalty by that. */
    public int stamp(int car, int item, int minute)
            throws IndexOutOfBoundsException, IllegalArgumentException, IllegalStateException {
        needCar(car);
        needItem(item);
        needControl(item);
        needRange(minute, 0, LAST_MINUTE);
        if (!rally.cards.takesStamp(car, item)) {
            throw new IllegalStateException("the car cannot be stamped there, or was");
        }
        return rally.cards.put(car, item, minute);
    }

    /** Gives a delay and returns to how many cars. */
    public int delay(int item, int car, int minutes)
            throws IndexOutOfBoundsException, IllegalArgumentException, IllegalStateException {
        needItem(item);
        needCar(car);
        needKind(item, CONTROL);
        needRange(minutes, 1, LONGEST_DELAY);
        int leg = rally.itinerary.legOf(item);
        int place = rally.orders.placeOf(leg, car);
        if (place == NONE) {
            throw new IllegalStateException("the car is not in the order of the leg");
        }
        return rally.cards.giveDelay(item, leg, place, minutes);
    }

    // ---- stages

    /** Tells a finish by the beam or by hand, in the place of an earlier one. */
    public void finish(int car, int item, boolean isBeam, int tenths)
            throws IndexOutOfBoundsException, IllegalArgumentException, IllegalStateException {
        needCar(car);
        needItem(item);
        needKind(item, STAGE);
        needRange(tenths, 0, LAST_FINISH);
        needStart(car, item);
        if (tenths < rally.cards.startTenths(car, item)) {
            throw new IllegalStateException("the finish is ahead of the start");
        }
        rally.stages.tell(car, item, isBeam, tenths);
    }

    /** Tells whether a car was held up and returns its time then, or NONE. */
    public int held(int car, int item, boolean isHeld)
            throws IndexOutOfBoundsException, IllegalArgumentException, IllegalStateException {
        needCar(car);
        needItem(item);
        needKind(item, STAGE);
        needStart(car, item);
        return rally.stages.hold(car, item, isHeld);
    }

    /** Awards a time, or takes it back with NONE, and returns the car's time then, or NONE. */
    public int award(int car, int item, int tenths)
            throws IndexOutOfBoundsException, IllegalArgumentException, IllegalStateException {
        needCar(car);
        needItem(item);
        needKind(item, STAGE);
        needRange(tenths, NONE, LONGEST_AWARD);
        needStart(car, item);
        return rally.stages.grant(car, item, tenths);
    }

    /** Returns the time of a car in a stage, or NONE. */
    public int time(int car, int item) throws IndexOutOfBoundsException, IllegalArgumentException {
        needCar(car);
        needItem(item);
        needKind(item, STAGE);
        return rally.stages.timeOf(car, item);
    }

    // ---- tyres, retirements

    /** Allocates a tyre and returns how many the car has then. */
    public int allocate(int car, int barcode)
            throws IndexOutOfBoundsException, IllegalArgumentException, IllegalStateException {
        needCar(car);
        needRange(barcode, 0, BARCODES - 1);
        if (!rally.tyres.takes(car, barcode)) {
            throw new IllegalStateException("the car has this tyre, or has six");
        }
        return rally.tyres.add(car, barcode);
    }

    /** Tells that a tyre was seen and returns the penalty by that. */
    public int seen(int car, int barcode) throws IndexOutOfBoundsException, IllegalArgumentException {
        needCar(car);
        needRange(barcode, 0, BARCODES - 1);
        return rally.tyres.check(car, barcode);
    }

    /** Lets a car retire. */
    public void retire(int car, boolean again) throws IndexOutOfBoundsException, IllegalStateException {
        needCar(car);
        if (!rally.cards.isRunning(car)) {
            throw new IllegalStateException("the car is retired, or out");
        }
        rally.cards.withdraw(car, again);
    }

    /** Returns what a car is: penalties, minutes late, out, retired, total, place. */
    public int car(int car, int what) throws IndexOutOfBoundsException, IllegalArgumentException {
        needCar(car);
        needRange(what, 0, 5);
        switch (what) {
            case 0:
                return rally.ranks.penaltiesOf(car);
            case 1:
                return rally.cards.lateOf(car);
            case 2:
                return rally.cards.isOut(car) ? 1 : 0;
            case 3:
                return rally.cards.isRetired(car) ? 1 : 0;
            case 4:
                return rally.ranks.totalOf(car);
            default:
                rally.ranks.reckon(false);
                return rally.ranks.placeOf(car);
        }
    }

    /** Returns the total of a car, found anew from all that was told. */
    public int totalAnew(int car) throws IndexOutOfBoundsException {
        needCar(car);
        rally.stages.reckonAll();
        return rally.ranks.totalFromCard(car);
    }

    /** Returns which car has a place in the ranks, or NONE. */
    public int ranked(int place) throws IllegalArgumentException {
        needRange(place, 0, CARS - 1);
        rally.ranks.reckon(false);
        return rally.ranks.carAt(place);
    }

    // ---- championship

    /** Closes the rally and returns how many are over then. */
    public int close() throws IllegalStateException {
        if (season.isFull() || !rally.isBegun()) {
            throw new IllegalStateException("six rallies are over, or no leg was opened");
        }
        rally.ranks.reckon(false);
        for (int car = 0; car < CARS; car++) {
            season.note(car, rally.ranks.placeOf(car));
        }
        rally = Rally.begin();
        return season.end();
    }

    /** Returns the sum of a car in the championship. */
    public int points(int car) throws IndexOutOfBoundsException {
        needCar(car);
        return season.sumOf(car);
    }

    /** Returns which car has a place in the table. */
    public int table(int place) throws IllegalArgumentException {
        needRange(place, 0, CARS - 1);
        return season.carAt(place);
    }

    // ---- what the arguments must be

    private static void needCar(int car) {
        if (car < 0 || car >= CARS) {
            throw new IndexOutOfBoundsException("there is no such car");
        }
    }

    private void needItem(int item) {
        if (!rally.itinerary.has(item)) {
            throw new IndexOutOfBoundsException("there is no such item");
        }
    }

    private static void needRange(int value, int least, int most) {
        if (value < least || value > most) {
            throw new IllegalArgumentException("an argument is out of its range");
        }
    }

    private void needKind(int item, int kind) {
        if (rally.itinerary.kindOf(item) != kind) {
            throw new IllegalArgumentException("the item is of another kind");
        }
    }

    private void needControl(int item) {
        if (rally.itinerary.kindOf(item) == STAGE) {
            throw new IllegalArgumentException("the item is a STAGE");
        }
    }

    private void needStart(int car, int stage) {
        if (rally.cards.stampAt(car, rally.itinerary.controlAhead(stage)) == NONE) {
            throw new IllegalStateException("the car was not stamped ahead of the stage");
        }
    }

    /** The items in their row. */
    private static final class Itinerary {
        private final int[] kinds = new int[ITEMS];
        private final int[] minutes = new int[ITEMS];
        private final int[] legs = new int[ITEMS];
        private int size;

        boolean has(int item) {
            return item >= 0 && item < size;
        }

        int size() {
            return size;
        }

        int kindOf(int item) {
            return has(item) ? kinds[item] : NONE;
        }

        int minutesOf(int item) {
            return has(item) ? minutes[item] : 0;
        }

        boolean takes(int kind) {
            if (size >= ITEMS) {
                return false;
            }
            if (size == 0) {
                return kind == LEG;
            }
            return kind == CONTROL || kindOf(size - 1) != STAGE;
        }

        int add(int kind, int itsMinutes) {
            if (size >= ITEMS) {
                return NONE;
            }
            kinds[size] = kind;
            minutes[size] = itsMinutes;
            legs[size] = kind == LEG ? size : legOf(size - 1);
            size++;
            return size - 1;
        }

        boolean isBehindStage(int item) {
            return item > 0 && item < size && kinds[item - 1] == STAGE;
        }

        /** Over one stage at most: no two are side by side. NONE ahead of the first item. */
        int controlAhead(int item) {
            return isBehindStage(item) ? item - 2 : item - 1;
        }

        int legOf(int item) {
            return has(item) ? legs[item] : 0;
        }
    }

    /** The starting orders of the legs, each under the number of its LEG. */
    private static final class Orders {
        private final int[] cars = new int[ITEMS * CARS];
        private final int[] sizes = new int[ITEMS];

        Orders() {
            // an open leg can have an order of no car, so 0 cannot stand for a leg that is not open
            Arrays.fill(sizes, NONE);
        }

        boolean isOpen(int leg) {
            return sizes[leg] != NONE;
        }

        int sizeOf(int leg) {
            return sizes[leg];
        }

        void begin(int leg) {
            sizes[leg] = 0;
        }

        void add(int leg, int car) {
            if (car != NONE && sizes[leg] >= 0 && sizes[leg] < CARS) {
                cars[leg * CARS + sizes[leg]] = car;
                sizes[leg]++;
            }
        }

        int carAt(int leg, int place) {
            return place >= 0 && place < sizes[leg] ? cars[leg * CARS + place] : NONE;
        }

        int placeOf(int leg, int car) {
            for (int place = 0; place < CARS; place++) {
                if (carAt(leg, place) == car) {
                    return place;
                }
            }
            return NONE;
        }
    }

    /** What is stamped on the cards of the cars, what that costs them, and who is retired. */
    private static final class Cards {
        private final Itinerary itinerary;
        private final Orders orders;
        private final int[] stamps = new int[ITEMS * CARS];
        private final int[] delays = new int[ITEMS * CARS];
        private final int[] penalties = new int[CARS];
        private final int[] late = new int[CARS];
        private final boolean[] retired = new boolean[CARS];
        private final boolean[] askedAgain = new boolean[CARS];

        Cards(Itinerary itinerary, Orders orders) {
            this.itinerary = itinerary;
            this.orders = orders;
            Arrays.fill(stamps, NONE);
        }

        int stampAt(int car, int item) {
            return itinerary.has(item) ? stamps[item * CARS + car] : NONE;
        }

        /** When the car is due by its card and its order alone, running or not; NONE if it is not. */
        int dueAt(int car, int item) {
            if (itinerary.kindOf(item) == LEG) {
                int place = orders.placeOf(item, car);
                return place == NONE ? NONE : itinerary.minutesOf(item) + START_GAP * place;
            }
            int ahead = stampAt(car, itinerary.controlAhead(item));
            if (ahead == NONE) {
                return NONE;
            }
            int leaves = itinerary.isBehindStage(item) ? ahead + STAGE_WAIT : ahead;
            return leaves + itinerary.minutesOf(item) + delays[item * CARS + car];
        }

        boolean takesStamp(int car, int item) {
            return isRunning(car) && stampAt(car, item) == NONE && dueAt(car, item) != NONE;
        }

        int put(int car, int item, int minute) {
            stamps[item * CARS + car] = minute;
            int penalty = penaltyAt(car, item);
            penalties[car] += penalty;
            late[car] += Math.max(0, minute - dueAt(car, item));
            return penalty;
        }

        private int penaltyAt(int car, int item) {
            int over = stampAt(car, item) - dueAt(car, item);
            return over > 0 ? LATE_PENALTY * over : -EARLY_PENALTY * over;
        }

        int penaltiesFromCard(int car) {
            int sum = 0;
            for (int item = 0; item < itinerary.size(); item++) {
                if (stampAt(car, item) != NONE) {
                    sum += penaltyAt(car, item);
                }
            }
            return sum;
        }

        int giveDelay(int item, int leg, int firstPlace, int minutes) {
            int given = 0;
            for (int place = firstPlace; place < CARS; place++) {
                int car = orders.carAt(leg, place);
                if (car != NONE && stampAt(car, item) == NONE) {
                    delays[item * CARS + car] += minutes;
                    given++;
                }
            }
            return given;
        }

        /** When the car starts a stage, in tenths; it is stamped ahead of that. */
        int startTenths(int car, int stage) {
            return MINUTE_TENTHS * (stampAt(car, itinerary.controlAhead(stage)) + STAGE_WAIT);
        }

        int penaltiesOf(int car) {
            return penalties[car];
        }

        int lateOf(int car) {
            return late[car];
        }

        boolean isOut(int car) {
            return late[car] > LATE_LIMIT;
        }

        boolean isRetired(int car) {
            return retired[car];
        }

        boolean isRunning(int car) {
            return !retired[car] && !isOut(car);
        }

        boolean hasStarted(int car) {
            return stampAt(car, 0) != NONE;
        }

        void withdraw(int car, boolean again) {
            retired[car] = true;
            askedAgain[car] = again;
        }

        boolean canReturn(int car) {
            return retired[car] && askedAgain[car] && !isOut(car) && hasStarted(car);
        }

        void bringBack(int car) {
            retired[car] = false;
        }
    }

    /**
     * What the clocks and the stewards say of the stages. The times are kept: only what is told of
     * a stage can change them, because orders and stamps stand before anything can be told.
     */
    private static final class Stages {
        private final Itinerary itinerary;
        private final Orders orders;
        private final Cards cards;
        private final int[] beams = new int[ITEMS * CARS];
        private final int[] hands = new int[ITEMS * CARS];
        private final int[] awards = new int[ITEMS * CARS];
        private final boolean[] heldUp = new boolean[ITEMS * CARS];
        private final int[] ownTimes = new int[ITEMS * CARS];
        private final int[] times = new int[ITEMS * CARS];
        private final int[] bestTimes = new int[ITEMS];

        Stages(Itinerary itinerary, Orders orders, Cards cards) {
            this.itinerary = itinerary;
            this.orders = orders;
            this.cards = cards;
            Arrays.fill(beams, NONE);
            Arrays.fill(hands, NONE);
            Arrays.fill(awards, NONE);
            Arrays.fill(ownTimes, NONE);
            Arrays.fill(times, NONE);
            Arrays.fill(bestTimes, NONE);
        }

        void tell(int car, int stage, boolean isBeam, int tenths) {
            if (isBeam) {
                beams[stage * CARS + car] = tenths;
            } else {
                hands[stage * CARS + car] = tenths;
            }
            reckon(stage);
        }

        int hold(int car, int stage, boolean isHeld) {
            heldUp[stage * CARS + car] = isHeld;
            reckon(stage);
            return timeOf(car, stage);
        }

        int grant(int car, int stage, int tenths) {
            awards[stage * CARS + car] = tenths;
            reckon(stage);
            return timeOf(car, stage);
        }

        int timeOf(int car, int stage) {
            return times[stage * CARS + car];
        }

        /** The car's times in all stages, and what stands for those that it missed. */
        int sumOf(int car) {
            int sum = 0;
            for (int item = 0; item < itinerary.size(); item++) {
                if (timeOf(car, item) != NONE) {
                    sum += timeOf(car, item);
                } else if (bestTimes[item] != NONE) {
                    sum += bestTimes[item] + MISSED_STAGE;
                }
            }
            return sum;
        }

        /** Whether a car is ahead of another by times, in the first stage in which they differ. */
        int compareTimes(int car, int other) {
            for (int item = 0; item < itinerary.size(); item++) {
                int mine = timeOf(car, item);
                int its = timeOf(other, item);
                if (mine != its) {
                    return its == NONE || mine != NONE && mine < its ? -1 : 1;
                }
            }
            return 0;
        }

        void reckonAll() {
            for (int item = 0; item < itinerary.size(); item++) {
                if (itinerary.kindOf(item) == STAGE) {
                    reckon(item);
                }
            }
        }

        private void reckon(int stage) {
            reckonOwnTimes(stage);
            int best = NONE;
            for (int car = 0; car < CARS; car++) {
                int time = reckonTime(car, stage);
                times[stage * CARS + car] = time;
                if (time != NONE && (best == NONE || time < best)) {
                    best = time;
                }
            }
            bestTimes[stage] = best;
        }

        private int reckonTime(int car, int stage) {
            int at = stage * CARS + car;
            if (awards[at] != NONE) {
                return awards[at];
            }
            return heldUp[at] ? notionalTime(car, stage) : ownTimes[at];
        }

        private void reckonOwnTimes(int stage) {
            int lead = beamLead(stage);
            for (int car = 0; car < CARS; car++) {
                int at = stage * CARS + car;
                if (beams[at] != NONE || hands[at] != NONE) {
                    int finish = beams[at] != NONE ? beams[at] : hands[at] + lead;
                    ownTimes[at] = Math.max(0, finish - cards.startTenths(car, stage));
                }
            }
        }

        /** The mean of what the beam is more than the hand. */
        private int beamLead(int stage) {
            int sum = 0;
            int count = 0;
            for (int car = 0; car < CARS; car++) {
                int at = stage * CARS + car;
                if (beams[at] != NONE && hands[at] != NONE) {
                    sum += beams[at] - hands[at];
                    count++;
                }
            }
            return count == 0 ? 0 : Math.floorDiv(sum, count);
        }

        private int notionalTime(int car, int stage) {
            int leg = itinerary.legOf(stage);
            int place = orders.placeOf(leg, car);
            int ahead = NONE;
            for (int other = place - 1; other >= 0 && ahead == NONE; other--) {
                ahead = freeTime(orders.carAt(leg, other), stage);
            }
            int behind = NONE;
            for (int other = place + 1; other < CARS && behind == NONE; other++) {
                behind = freeTime(orders.carAt(leg, other), stage);
            }
            if (ahead == NONE) {
                return behind;
            }
            return behind == NONE ? ahead : (ahead + behind) / 2;
        }

        /** The own time of a car that was not held up, or NONE. */
        private int freeTime(int car, int stage) {
            if (car == NONE || heldUp[stage * CARS + car]) {
                return NONE;
            }
            return ownTimes[stage * CARS + car];
        }
    }

    /** The tyres that the cars have, and those that they were fined for. */
    private static final class Tyres {
        private final boolean[] allocated = new boolean[CARS * BARCODES];
        private final boolean[] fined = new boolean[CARS * BARCODES];
        private final int[] counts = new int[CARS];
        private final int[] penalties = new int[CARS];

        boolean takes(int car, int barcode) {
            return counts[car] < TYRES && !allocated[car * BARCODES + barcode];
        }

        int add(int car, int barcode) {
            allocated[car * BARCODES + barcode] = true;
            counts[car]++;
            return counts[car];
        }

        /** What is fined stays so, even if the tyre is allocated later. */
        int check(int car, int barcode) {
            int at = car * BARCODES + barcode;
            if (allocated[at] || fined[at]) {
                return 0;
            }
            fined[at] = true;
            penalties[car] += TYRE_PENALTY;
            return TYRE_PENALTY;
        }

        int penaltiesOf(int car) {
            return penalties[car];
        }

        int penaltiesFromTyres(int car) {
            int sum = 0;
            for (int barcode = 0; barcode < BARCODES; barcode++) {
                if (fined[car * BARCODES + barcode]) {
                    sum += TYRE_PENALTY;
                }
            }
            return sum;
        }
    }

    /** The totals of the cars, and their places by these as they were last reckoned. */
    private static final class Ranks {
        private final Cards cards;
        private final Stages stages;
        private final Tyres tyres;
        private final int[] totals = new int[CARS];
        private final boolean[] isIn = new boolean[CARS];
        private final int[] places = new int[CARS];

        Ranks(Cards cards, Stages stages, Tyres tyres) {
            this.cards = cards;
            this.stages = stages;
            this.tyres = tyres;
        }

        int penaltiesOf(int car) {
            return cards.penaltiesOf(car) + tyres.penaltiesOf(car);
        }

        int totalOf(int car) {
            return stages.sumOf(car) + penaltiesOf(car);
        }

        int totalFromCard(int car) {
            return stages.sumOf(car) + cards.penaltiesFromCard(car) + tyres.penaltiesFromTyres(car);
        }

        /** Ranks the cars; all of them, or else those alone that are to be ranked. */
        void reckon(boolean isOfAll) {
            for (int car = 0; car < CARS; car++) {
                isIn[car] = isOfAll || cards.hasStarted(car) && cards.isRunning(car);
                totals[car] = totalOf(car);
            }
            for (int car = 0; car < CARS; car++) {
                places[car] = isIn[car] ? 0 : NONE;
                for (int other = 0; other < car; other++) {
                    if (isIn[car] && isIn[other]) {
                        places[isAhead(other, car) ? car : other]++;
                    }
                }
            }
        }

        int placeOf(int car) {
            return places[car];
        }

        int carAt(int place) {
            for (int car = 0; car < CARS; car++) {
                if (places[car] == place) {
                    return car;
                }
            }
            return NONE;
        }

        private boolean isAhead(int car, int other) {
            if (totals[car] != totals[other]) {
                return totals[car] < totals[other];
            }
            int order = stages.compareTimes(car, other);
            return order != 0 ? order < 0 : car < other;
        }
    }

    /** One rally from its itinerary to its ranks; a new one is a rally at its beginning. */
    private static final class Rally {
        private final Itinerary itinerary;
        private final Orders orders;
        private final Cards cards;
        private final Stages stages;
        private final Tyres tyres;
        private final Ranks ranks;

        private Rally(Itinerary itinerary, Orders orders, Cards cards, Stages stages, Tyres tyres, Ranks ranks) {
            this.itinerary = itinerary;
            this.orders = orders;
            this.cards = cards;
            this.stages = stages;
            this.tyres = tyres;
            this.ranks = ranks;
        }

        static Rally begin() {
            Itinerary itinerary = new Itinerary();
            Orders orders = new Orders();
            Cards cards = new Cards(itinerary, orders);
            Stages stages = new Stages(itinerary, orders, cards);
            Tyres tyres = new Tyres();
            return new Rally(itinerary, orders, cards, stages, tyres, new Ranks(cards, stages, tyres));
        }

        /** The first item is a LEG, and no other one can be opened ahead of it. */
        boolean isBegun() {
            return orders.isOpen(0);
        }

        boolean isNextLeg(int leg) {
            for (int item = 0; item < leg; item++) {
                if (itinerary.kindOf(item) == LEG && !orders.isOpen(item)) {
                    return false;
                }
            }
            return !orders.isOpen(leg);
        }

        int makeOrder(int leg, int kind) {
            ranks.reckon(leg == 0);
            orders.begin(leg);
            if (kind == NUMBERS) {
                addByNumbers(leg);
            } else {
                addByRank(leg, kind == REVERSED ? TURNED_ROUND : 0);
            }
            if (leg > 0) {
                addReturning(leg);
            }
            return orders.sizeOf(leg);
        }

        private void addByNumbers(int leg) {
            for (int car = 0; car < CARS; car++) {
                if (ranks.placeOf(car) != NONE) {
                    orders.add(leg, car);
                }
            }
        }

        /** Of fewer cars than are turned round the missing places give no car. */
        private void addByRank(int leg, int turned) {
            for (int place = 0; place < CARS; place++) {
                int from = place < turned ? turned - 1 - place : place;
                orders.add(leg, ranks.carAt(from));
            }
        }

        private void addReturning(int leg) {
            for (int car = 0; car < CARS; car++) {
                if (cards.canReturn(car)) {
                    cards.bringBack(car);
                    orders.add(leg, car);
                }
            }
        }
    }

    /** The championship: the places of each car in the rallies that are over, its best one first. */
    private static final class Season {
        private final int[] results = new int[CARS * RALLIES];
        private int over;

        boolean isFull() {
            return over >= RALLIES;
        }

        /** Puts a car's place in the rally that ends among its earlier ones. */
        void note(int car, int place) {
            if (isFull()) {
                return;
            }
            int first = car * RALLIES;
            // a place behind all, so that no place is the worst result
            int result = place == NONE ? CARS : place;
            int at = first + over;
            while (at > first && results[at - 1] > result) {
                results[at] = results[at - 1];
                at--;
            }
            results[at] = result;
        }

        int end() {
            over++;
            return over;
        }

        /** The last of a car's results is the one of the least points. */
        int sumOf(int car) {
            int counted = over >= RALLIES_TO_DROP ? over - 1 : over;
            int sum = 0;
            for (int n = 0; n < counted; n++) {
                int result = results[car * RALLIES + n];
                sum += result >= 0 && result < POINTS.length ? POINTS[result] : 0;
            }
            return sum;
        }

        int carAt(int place) {
            for (int car = 0; car < CARS; car++) {
                if (countAhead(car) == place) {
                    return car;
                }
            }
            return NONE;
        }

        private int countAhead(int car) {
            int count = 0;
            for (int other = 0; other < CARS; other++) {
                if (isAhead(other, car)) {
                    count++;
                }
            }
            return count;
        }

        private boolean isAhead(int car, int other) {
            int sum = sumOf(car);
            int otherSum = sumOf(other);
            if (sum != otherSum) {
                return sum > otherSum;
            }
            for (int n = 0; n < over; n++) {
                int result = results[car * RALLIES + n];
                int otherResult = results[other * RALLIES + n];
                if (result != otherResult) {
                    return result < otherResult;
                }
            }
            return car < other;
        }
    }
}
