/** States that the tests of wrong calls begin in, each with something of all that can be told. */
final class States {
    static final Script NEW = new Script();
    /** Two legs: 0 LEG, 1 CONTROL, 2 STAGE, 3 CONTROL; 4 LEG, 5 STAGE, 6 CONTROL. */
    static final Script LAID = new Script()
            .call("item", 0, 10).call("item", 1, 5).call("item", 2, 0).call("item", 1, 20)
            .call("item", 0, 200).call("item", 2, 0).call("item", 1, 10);
    static final Script UNDER_WAY = Script.of(LAID, firstLeg());
    static final Script BOTH_LEGS = Script.of(UNDER_WAY, secondLeg());
    static final Script BEHIND_STAGE = new Script().call("item", 0, 0).call("item", 2, 0);
    static final Script FULL = Script.of(LAID, controls(13));
    static final Script ONE_OVER = Script.of(UNDER_WAY, new Script().call("close"));
    static final Script SIX_OVER = Script.of(ONE_OVER, rallies(5));
    static final Script SEVENTH_OPEN = Script.of(SIX_OVER, UNDER_WAY);

    private States() {
    }

    /**
     * 0 has driven; 1 is at the leg; 2 is retired for good, 3 to start again; 4 is out; 5 was held up;
     * 6 has an award; 7 has six tyres and a fine; 8 was nowhere; 9 was told by beam and by hand.
     */
    private static Script firstLeg() {
        Script script = new Script().call("open", 0, 0);
        for (int car : new int[] {0, 1, 2, 3, 4, 5, 6, 9}) {
            script.call("stamp", car, 0, 10 + 2 * car);
        }
        for (int car : new int[] {0, 2, 3, 5, 6, 9}) {
            script.call("stamp", car, 1, 16 + 2 * car);
        }
        script.call("stamp", 4, 1, 60);
        script.call("finish", 0, 2, 1, 600 * 19 + 1500);
        script.call("finish", 5, 2, 0, 600 * 29 + 1800).call("held", 5, 2, 1);
        script.call("award", 6, 2, 1700);
        script.call("finish", 9, 2, 1, 600 * 37 + 1930).call("finish", 9, 2, 0, 600 * 37 + 1900);
        script.call("retire", 2, 0).call("retire", 3, 1);
        for (int barcode = 10; barcode < 16; barcode++) {
            script.call("allocate", 7, barcode);
        }
        return script.call("seen", 7, 50).call("delay", 3, 5, 7);
    }

    /** In the order by rank are 0, 6, 5, 9, 1 and, started again, 3. */
    private static Script secondLeg() {
        return new Script().call("open", 4, 1)
                .call("stamp", 0, 4, 200).call("stamp", 6, 4, 202).call("stamp", 3, 4, 211)
                .call("finish", 0, 5, 1, 600 * 203 + 900).call("finish", 3, 5, 1, 600 * 214 + 700)
                .call("delay", 6, 9, 4).call("stamp", 0, 6, 213).call("retire", 6, 0);
    }

    private static Script controls(int count) {
        Script script = new Script();
        for (int n = 0; n < count; n++) {
            script.call("item", 1, n);
        }
        return script;
    }

    private static Script rallies(int count) {
        Script script = new Script();
        for (int n = 0; n < count; n++) {
            script.call("item", 0, 0).call("open", 0, 0).call("stamp", n, 0, 2 * n).call("close");
        }
        return script;
    }
}
