/** One call of the face, by the name of its method; a boolean is 1 or 0. */
record Call(String name, int... args) {
    /** What the class answers: a number, or the name of the exception's very class. */
    String askedOf(RallyCard x) {
        try {
            return String.valueOf(answerOf(x));
        } catch (RuntimeException e) {
            return e.getClass().getSimpleName();
        }
    }

    private int answerOf(RallyCard x) {
        switch (name) {
            case "item": return x.item(args[0], args[1]);
            case "open": return x.open(args[0], args[1]);
            case "starts": return x.starts(args[0], args[1]);
            case "due": return x.due(args[0], args[1]);
            case "stamp": return x.stamp(args[0], args[1], args[2]);
            case "delay": return x.delay(args[0], args[1], args[2]);
            case "finish": x.finish(args[0], args[1], args[2] == 1, args[3]); return 0;
            case "held": return x.held(args[0], args[1], args[2] == 1);
            case "award": return x.award(args[0], args[1], args[2]);
            case "time": return x.time(args[0], args[1]);
            case "allocate": return x.allocate(args[0], args[1]);
            case "seen": return x.seen(args[0], args[1]);
            case "retire": x.retire(args[0], args[1] == 1); return 0;
            case "car": return x.car(args[0], args[1]);
            case "totalAnew": return x.totalAnew(args[0]);
            case "ranked": return x.ranked(args[0]);
            case "close": return x.close();
            case "points": return x.points(args[0]);
            case "table": return x.table(args[0]);
            default: throw new UnsupportedOperationException(name);
        }
    }

    @Override
    public String toString() {
        return name + java.util.Arrays.toString(args);
    }
}
