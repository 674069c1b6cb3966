import java.util.ArrayList;
import java.util.List;
import java.util.Random;
import java.util.TreeMap;

/** All promises: long runs of calls, likely and unlikely ones, against the document's model. */
public final class ModelTest {
    private static final int RUNS = 400;
    private static final int CALLS = 512;
    /** With less room it would take too many new objects to ask everything. */
    private static final int ROOM = 60;
    private static final int[] WRONG = {-1, -2, 10, 20, 100, 2001, 100000, 2000001, Integer.MIN_VALUE, Integer.MAX_VALUE};

    private final Random random;
    private final RallyCard x = new RallyCard();
    private final Model model = new Model();
    private final List<Call> made = new ArrayList<>();
    private final TreeMap<String, Integer> counts;
    private final int closeOnceIn;
    private int items;
    private boolean isRight = true;

    /** Each fourth run has many short rallies, so that seasons come to their ends, too. */
    private ModelTest(int run, TreeMap<String, Integer> counts) {
        this.random = new Random(run);
        this.closeOnceIn = run % 4 == 0 ? 12 : 200;
        this.counts = counts;
    }

    public static void main(String[] args) {
        TreeMap<String, Integer> counts = new TreeMap<>();
        int wrong = 0;
        for (int run = 0; run < RUNS; run++) {
            ModelTest test = new ModelTest(run, counts);
            if (!test.isRight(run)) {
                wrong++;
            }
        }
        for (String name : new String[] {"item", "open", "stamp", "delay", "finish", "held", "award", "allocate", "retire", "close"}) {
            if (!counts.containsKey(name + " IllegalStateException") || !counts.containsKey(name + " answers")) {
                wrong++;
                System.out.println("the runs never had " + name + " both ways: " + counts);
            }
        }
        System.out.println(RUNS + " runs against the model, " + wrong + " wrong");
        if (wrong != 0) {
            System.exit(1);
        }
    }

    private boolean isRight(int run) {
        while (isRight && made.size() < CALLS) {
            if (items == 0) {
                layItinerary();
            }
            step();
            if (random.nextInt(40) == 0) {
                lookAtAll();
            }
        }
        if (!isRight) {
            System.out.println("run " + run + " goes wrong behind these calls: " + made);
        }
        return isRight;
    }

    private String make(String name, int... args) {
        if (!isRight || made.size() >= CALLS) {
            return "";
        }
        Call call = new Call(name, args);
        String want = compare(call, x);
        made.add(call);
        counts.merge(name + (want.endsWith("n") ? " " + want : " answers"), 1, Integer::sum);
        return want;
    }

    private String compare(Call call, RallyCard asked) {
        String want = model.answer(call);
        String got = call.askedOf(asked);
        if (!got.equals(want)) {
            isRight = false;
            System.out.println(call + " answered " + got + ", due is " + want);
        }
        return want;
    }

    /** What is due, asked of the model so that it is no call of the object. */
    private String due(int car, int item) {
        return model.answer(new Call("due", car, item));
    }

    /** Mostly short itineraries, so that cars come to their ends. */
    private void layItinerary() {
        int most = random.nextInt(5) == 0 ? 22 : 3 + random.nextInt(7);
        int minute = random.nextInt(50);
        for (int n = 0; n < most; n++) {
            int kind = n == 0 ? 0 : random.nextInt(8) == 0 ? 0 : 1 + random.nextInt(2);
            String answer = make("item", kind, kind == 2 ? 0 : kind == 0 ? minute : random.nextInt(20));
            if (kind == 0) {
                minute += random.nextInt(60);
            }
            if (!answer.endsWith("n") && !answer.isEmpty()) {
                items++;
            }
        }
        if (random.nextInt(3) == 0) {
            make("seen", car(), random.nextInt(100));
        }
        make("open", 0, random.nextInt(3));
    }

    private void step() {
        int car = car();
        int item = random.nextInt(items + 1);
        if (random.nextInt(closeOnceIn) == 0 && make("close").length() == 1) {
            items = 0;
            return;
        }
        switch (random.nextInt(22)) {
            case 0: make("open", item, random.nextInt(3)); break;
            case 1: make("delay", item, car, 1 + random.nextInt(10)); break;
            case 2: make("allocate", car % 2, random.nextInt(8)); break;
            case 3: make("seen", car % 3, random.nextInt(8)); break;
            case 4: if (random.nextInt(4) == 0) make("retire", car, random.nextInt(2)); break;
            case 5: case 6: tell(car, item); break;
            case 7: make("held", car, item, random.nextInt(2)); break;
            case 8: make("award", car, item, random.nextInt(3) == 0 ? -1 : 300 * random.nextInt(4)); break;
            case 9: makeWrong(); break;
            case 10: make("car", car, random.nextInt(6)); break;
            case 11: make("ranked", car); break;
            case 12: make("totalAnew", car); break;
            default: stampAndDrive(car); break;
        }
    }

    /** Stamps a car at each item that it can be stamped at, up to some, mostly near its due minute. */
    private void stampAndDrive(int car) {
        int last = random.nextInt(items + 1);
        for (int item = 0; item < last; item++) {
            String due = due(car, item);
            if (due.endsWith("n")) {
                tell(car, item);
            } else if (!due.equals("-1")) {
                int off = random.nextInt(4) == 0 ? random.nextInt(14) - 3 : 0;
                make("stamp", car, item, Math.max(0, Integer.parseInt(due) + off));
            }
        }
    }

    /** A finish not long behind what may be the start. */
    private void tell(int car, int item) {
        String due = due(car, Math.max(0, item - 1));
        int minute = due.endsWith("n") ? random.nextInt(300) : Math.max(0, Integer.parseInt(due));
        make("finish", car, item, random.nextInt(2), 600 * (minute + 3) + 5 * random.nextInt(400));
    }

    private void makeWrong() {
        String[] names = {"item", "open", "starts", "due", "stamp", "delay", "finish", "held", "award", "time",
            "allocate", "seen", "retire", "car", "totalAnew", "ranked", "points", "table"};
        int[] sizes = {2, 2, 2, 2, 3, 3, 4, 3, 3, 2, 2, 2, 2, 2, 1, 1, 1, 1};
        int which = random.nextInt(names.length);
        int[] args = new int[sizes[which]];
        for (int n = 0; n < args.length; n++) {
            args[n] = random.nextInt(2) == 0 ? WRONG[random.nextInt(WRONG.length)] : random.nextInt(4);
        }
        if (which == 7 && args[2] != 1) {
            args[2] = 0;
        }
        String answer = make(names[which], args);
        if (which == 0 && !answer.isEmpty() && !answer.endsWith("n")) {
            items++;
        }
    }

    /** Asks all that there is, of new objects after the same calls: none has more than it may have. */
    private void lookAtAll() {
        List<Call> questions = questions();
        int at = 0;
        while (isRight && at < questions.size() && made.size() <= CALLS - ROOM) {
            RallyCard y = new RallyCard();
            made.forEach(call -> call.askedOf(y));
            int end = Math.min(questions.size(), at + CALLS - made.size());
            for (; at < end; at++) {
                compare(questions.get(at), y);
            }
        }
    }

    private List<Call> questions() {
        List<Call> questions = new ArrayList<>();
        for (int car = 0; car < 10; car++) {
            for (int what = 0; what < 6; what++) {
                questions.add(new Call("car", car, what));
            }
            for (int item = 0; item < items; item++) {
                questions.add(new Call("due", car, item));
                questions.add(new Call("time", car, item));
                questions.add(new Call("starts", item, car));
            }
            for (String name : new String[] {"totalAnew", "ranked", "points", "table"}) {
                questions.add(new Call(name, car));
            }
        }
        return questions;
    }

    private int car() {
        return random.nextInt(10);
    }
}
