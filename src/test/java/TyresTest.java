/** Promises 12 to 14: allocate, seen, retire. */
public final class TyresTest {
    private static final Check check = new Check();

    public static void main(String[] args) {
        allocateRefuses();
        allocateCounts();
        seenRefuses();
        seenFines();
        seenThenAllocated();
        retireRefuses();
        retireTakesOut();
        check.end();
    }

    private static void allocateRefuses() {
        check.promise("12 allocate");
        RallyCard x = new RallyCard();
        check.fails(Check.INDEX, "car -1", () -> x.allocate(-1, 5));
        check.fails(Check.INDEX, "car 10, ahead of the barcode", () -> x.allocate(10, 100));
        check.fails(Check.ARGUMENT, "barcode -1", () -> x.allocate(0, -1));
        check.fails(Check.ARGUMENT, "barcode 100", () -> x.allocate(0, 100));
    }

    private static void allocateCounts() {
        RallyCard x = new RallyCard();
        check.same("barcode 0", x.allocate(9, 0), 1);
        check.fails(Check.STATE, "again", () -> x.allocate(9, 0));
        check.same("barcode 99", x.allocate(9, 99), 2);
        check.same("another car, the same barcode", x.allocate(8, 99), 1);
        for (int barcode = 10; barcode < 14; barcode++) {
            check.same("up to 6", x.allocate(9, barcode), barcode - 7);
        }
        check.fails(Check.STATE, "a seventh", () -> x.allocate(9, 50));
        check.fails(Check.STATE, "a seventh that it has", () -> x.allocate(9, 10));
        check.fails(Check.ARGUMENT, "a seventh out of range", () -> x.allocate(9, 100));
        check.same("refused is not allocated", x.seen(9, 50), 600);
        check.same("the other car has one", x.allocate(8, 50), 2);
    }

    private static void seenRefuses() {
        check.promise("13 seen");
        RallyCard x = new RallyCard();
        check.fails(Check.INDEX, "car -1", () -> x.seen(-1, 5));
        check.fails(Check.INDEX, "car 10, ahead of the barcode", () -> x.seen(10, -1));
        check.fails(Check.ARGUMENT, "barcode -1", () -> x.seen(0, -1));
        check.fails(Check.ARGUMENT, "barcode 100", () -> x.seen(0, 100));
        check.same("no penalty by what was refused", x.car(0, 0), 0);
    }

    private static void seenFines() {
        RallyCard x = new RallyCard();
        x.allocate(2, 7);
        check.same("its own", x.seen(2, 7), 0);
        check.same("another car's", x.seen(3, 7), 600);
        check.same("once for each", x.seen(3, 7), 0);
        check.same("barcode 0", x.seen(3, 0), 600);
        check.same("barcode 99", x.seen(3, 99), 600);
        check.same("on another car", x.seen(4, 99), 600);
        check.same("penalties", x.car(3, 0), 1800);
        check.same("total", x.car(3, 4), 1800);
        check.same("total anew", x.totalAnew(3), 1800);
        check.same("no penalty of the first", x.car(2, 0), 0);
        check.same("not late by that", x.car(3, 1), 0);
    }

    private static void seenThenAllocated() {
        RallyCard x = new RallyCard();
        check.same("not its own", x.seen(0, 42), 600);
        check.same("then its own", x.allocate(0, 42), 1);
        check.same("seen again", x.seen(0, 42), 0);
        check.same("the penalty stays", x.car(0, 0), 600);
        check.same("anew, too", x.totalAnew(0), 600);
    }

    private static void retireRefuses() {
        check.promise("14 retire");
        RallyCard x = Rallies.oneStage();
        check.fails(Check.INDEX, "car -1", () -> x.retire(-1, true));
        check.fails(Check.INDEX, "car 10", () -> x.retire(10, false));
        x.retire(0, false);
        check.fails(Check.STATE, "retired", () -> x.retire(0, false));
        check.fails(Check.STATE, "retired, to start again", () -> x.retire(0, true));
        x.stamp(1, 0, 12 + 31);
        check.fails(Check.STATE, "out", () -> x.retire(1, true));
        check.same("out is not retired", x.car(1, 3), 0);
    }

    private static void retireTakesOut() {
        RallyCard x = Rallies.twoLegs();
        x.open(0, RallyCard.NUMBERS);
        Rallies.drive(x, 0, 500);
        Rallies.drive(x, 1, 600);
        check.same("ranked", x.ranked(0), 0);
        x.retire(0, false);
        check.same("retired", x.car(0, 3), 1);
        check.same("not ranked", x.car(0, 5), RallyCard.NONE);
        check.same("the next one leads", x.ranked(0), 1);
        check.same("its time stands", x.time(0, 1), 500);
        check.same("the order stands", x.starts(0, 0), 0);
        check.fails(Check.STATE, "no wish is changed by what was refused", () -> x.retire(0, true));
        check.same("one is left", x.open(3, RallyCard.NUMBERS), 1);
        check.same("retired still", x.car(0, 3), 1);
    }
}
