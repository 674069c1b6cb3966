/**
 * Each IllegalStateException of promises 2 to 18, for each of its reasons: it is thrown, and the
 * object answers from there on as one that was never asked. (Wrong arguments: RangesTest.)
 */
public final class RefusedTest {
    private static final String STATE = "IllegalStateException";
    private static final Check check = new Check();
    private static final Unchanged unchanged = new Unchanged(check);

    public static void main(String[] args) {
        item();
        open();
        stamp();
        stampNotRunning();
        delay();
        finish();
        heldAndAward();
        allocate();
        retire();
        close();
        check.end();
    }

    private static void refused(Script state, String name, int... args) {
        unchanged.by(STATE, state, name, args);
    }

    private static void item() {
        check.promise("2 item, there are 20");
        refused(States.FULL, "item", 0, 0);
        refused(States.FULL, "item", 1, 5);
        refused(States.FULL, "item", 2, 0);
        check.promise("2 item, the first one is no LEG");
        for (Script state : new Script[] {States.NEW, States.ONE_OVER, States.SIX_OVER}) {
            refused(state, "item", 1, 5);
            refused(state, "item", 2, 0);
        }
        check.promise("2 item, two STAGEs, a STAGE and a LEG");
        refused(States.BEHIND_STAGE, "item", 2, 0);
        refused(States.BEHIND_STAGE, "item", 0, 5);
        check.promise("2 item, a LEG was opened");
        for (Script state : new Script[] {States.UNDER_WAY, States.BOTH_LEGS, States.SEVENTH_OPEN}) {
            refused(state, "item", 0, 300);
            refused(state, "item", 1, 5);
            refused(state, "item", 2, 0);
        }
    }

    private static void open() {
        for (int kind = RallyCard.NUMBERS; kind <= RallyCard.REVERSED; kind++) {
            check.promise("3 open, it is open");
            refused(States.UNDER_WAY, "open", 0, kind);
            refused(States.BOTH_LEGS, "open", 0, kind);
            refused(States.BOTH_LEGS, "open", 4, kind);
            check.promise("3 open, an earlier LEG is not");
            refused(States.LAID, "open", 4, kind);
            Script three = new Script().call("item", 0, 0).call("item", 0, 9).call("item", 0, 20);
            refused(three, "open", 1, kind);
            refused(three, "open", 2, kind);
            refused(Script.of(three, new Script().call("open", 0, 0)), "open", 2, kind);
        }
    }

    private static void stamp() {
        check.promise("6 stamp, the LEG is not open");
        refused(States.LAID, "stamp", 0, 0, 10);
        refused(States.UNDER_WAY, "stamp", 0, 4, 200);
        check.promise("6 stamp, not in its order");
        refused(States.BOTH_LEGS, "stamp", 8, 4, 212);
        refused(States.BOTH_LEGS, "stamp", 7, 4, 212);
        check.promise("6 stamp, it was stamped there");
        refused(States.UNDER_WAY, "stamp", 0, 0, 10);
        refused(States.UNDER_WAY, "stamp", 0, 0, 11);
        refused(States.UNDER_WAY, "stamp", 0, 1, 16);
        refused(States.BOTH_LEGS, "stamp", 0, 4, 200);
        refused(States.BOTH_LEGS, "stamp", 0, 6, 0);
        check.promise("6 stamp, not stamped at the control ahead");
        refused(States.UNDER_WAY, "stamp", 8, 1, 33);
        refused(States.UNDER_WAY, "stamp", 8, 3, 33);
        refused(States.UNDER_WAY, "stamp", 1, 3, 40);
        refused(States.UNDER_WAY, "stamp", 0, 6, 220);
        refused(States.BOTH_LEGS, "stamp", 9, 6, 220);
    }

    private static void stampNotRunning() {
        check.promise("6 stamp, it is retired");
        refused(States.UNDER_WAY, "stamp", 2, 3, 50);
        refused(States.UNDER_WAY, "stamp", 3, 3, 50);
        refused(States.BOTH_LEGS, "stamp", 6, 6, 220);
        refused(Script.of(States.BOTH_LEGS, new Script().call("retire", 5, 0)), "stamp", 5, 4, 206);
        refused(Script.of(States.LAID, new Script().call("retire", 0, 1).call("open", 0, 0)), "stamp", 0, 0, 10);
        check.promise("6 stamp, it is out");
        refused(States.UNDER_WAY, "stamp", 4, 3, 90);
        refused(States.UNDER_WAY, "stamp", 4, 1, 60);
        refused(States.BOTH_LEGS, "stamp", 4, 4, 206);
        refused(Script.of(States.BOTH_LEGS, new Script().call("stamp", 5, 3, 200)), "stamp", 5, 4, 206);
        refused(Script.of(States.BOTH_LEGS, new Script().call("stamp", 5, 4, 300)), "stamp", 5, 6, 313);
    }

    private static void delay() {
        check.promise("7 delay, the car is not in the order of the leg");
        for (int car = 0; car < 10; car++) {
            refused(States.LAID, "delay", 3, car, 5);
            refused(States.UNDER_WAY, "delay", 6, car, 5);
        }
        refused(States.BOTH_LEGS, "delay", 6, 2, 1);
        refused(States.BOTH_LEGS, "delay", 6, 4, 60);
        refused(States.BOTH_LEGS, "delay", 6, 8, 5);
    }

    private static void finish() {
        for (int isBeam = 0; isBeam <= 1; isBeam++) {
            check.promise("8 finish, the car was not stamped ahead");
            refused(States.LAID, "finish", 0, 2, isBeam, 20000);
            refused(States.UNDER_WAY, "finish", 1, 2, isBeam, 20000);
            refused(States.UNDER_WAY, "finish", 8, 2, isBeam, 2000000);
            refused(States.UNDER_WAY, "finish", 0, 5, isBeam, 200000);
            refused(States.BOTH_LEGS, "finish", 9, 5, isBeam, 200000);
            check.promise("8 finish, it is less than its start");
            refused(States.UNDER_WAY, "finish", 0, 2, isBeam, 600 * 19 - 1);
            refused(States.UNDER_WAY, "finish", 9, 2, isBeam, 600 * 37 - 1);
            refused(States.UNDER_WAY, "finish", 9, 2, isBeam, 0);
            refused(States.BOTH_LEGS, "finish", 3, 5, isBeam, 600 * 214 - 1);
        }
    }

    private static void heldAndAward() {
        for (int isHeld = 0; isHeld <= 1; isHeld++) {
            check.promise("9 held, the car was not stamped ahead");
            refused(States.LAID, "held", 0, 2, isHeld);
            refused(States.UNDER_WAY, "held", 1, 2, isHeld);
            refused(States.UNDER_WAY, "held", 8, 2, isHeld);
            refused(States.UNDER_WAY, "held", 0, 5, isHeld);
            refused(States.BOTH_LEGS, "held", 9, 5, isHeld);
        }
        for (int tenths : new int[] {RallyCard.NONE, 0, 99999}) {
            check.promise("10 award, the car was not stamped ahead");
            refused(States.LAID, "award", 0, 2, tenths);
            refused(States.UNDER_WAY, "award", 1, 2, tenths);
            refused(States.UNDER_WAY, "award", 8, 2, tenths);
            refused(States.UNDER_WAY, "award", 0, 5, tenths);
            refused(States.BOTH_LEGS, "award", 9, 5, tenths);
        }
    }

    private static void allocate() {
        check.promise("12 allocate, it has it");
        refused(new Script().call("allocate", 3, 0), "allocate", 3, 0);
        refused(new Script().call("allocate", 3, 99), "allocate", 3, 99);
        refused(States.UNDER_WAY, "allocate", 7, 10);
        check.promise("12 allocate, it has 6");
        refused(States.UNDER_WAY, "allocate", 7, 16);
        refused(States.UNDER_WAY, "allocate", 7, 50);
        refused(States.UNDER_WAY, "allocate", 7, 99);
    }

    private static void retire() {
        for (int again = 0; again <= 1; again++) {
            check.promise("14 retire, it is retired");
            refused(States.UNDER_WAY, "retire", 2, again);
            refused(States.UNDER_WAY, "retire", 3, again);
            refused(States.BOTH_LEGS, "retire", 6, again);
            refused(new Script().call("retire", 0, 1 - again), "retire", 0, again);
            check.promise("14 retire, it is out");
            refused(States.UNDER_WAY, "retire", 4, again);
            refused(States.BOTH_LEGS, "retire", 4, again);
        }
    }

    private static void close() {
        check.promise("18 close, no LEG was opened");
        refused(States.NEW, "close");
        refused(States.LAID, "close");
        refused(new Script().call("retire", 0, 1).call("seen", 1, 1), "close");
        refused(States.ONE_OVER, "close");
        refused(Script.of(States.ONE_OVER, States.LAID), "close");
        check.promise("18 close, 6 are over");
        refused(States.SIX_OVER, "close");
        refused(Script.of(States.SIX_OVER, States.LAID), "close");
        refused(States.SEVENTH_OPEN, "close");
    }
}
