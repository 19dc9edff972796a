/** Objects at the edges that many tests need, each made anew. */
enum Situations {
    /** No carrier, nothing on the pad, nothing to undo, nothing saved. */
    NEW,
    /** Ten carriers, one with a broken end; 80 characters on the pad; six changes to undo; both slots saved. */
    FULL,
    /** An empty bobbin, a broken end, a number taken out, a pad with a fault, one slot saved. */
    USED,
    /** Two carriers that meet in the next step. */
    MEETING,
    /** 9901 steps are done: 98 more can be. */
    NEAR_THE_LAST_STEP,
    /** 9999 steps are done. */
    LAST_STEP;

    static final String FULL_PAD = "k4;" + "r1;".repeat(25) + "r1";

    BraidHorns make() {
        BraidHorns x = new BraidHorns();
        switch (this) {
            case FULL: fill(x); break;
            case USED: use(x); break;
            case MEETING: meet(x); break;
            case NEAR_THE_LAST_STEP: runLong(x, 1); break;
            case LAST_STEP: runLong(x, 99); break;
            default: break;
        }
        return x;
    }

    private static void fill(BraidHorns x) {
        x.set(BraidHorns.PAIRS, 6);
        x.carrier(3, 0);
        x.save(0);
        x.takeOut(0);
        upward(x, 10);
        x.run(7);
        x.snap(4);
        x.save(1);
        x.refill(2);
        Checks.write(x, FULL_PAD);
    }

    /** Carriers that all go towards higher numbers, one a horn: they never meet. */
    static void upward(BraidHorns x, int carriers) {
        for (int horn = 0; horn < carriers; horn++) {
            x.carrier(horn, horn % 2 == 0 ? 3 : 1);
        }
    }

    private static void use(BraidHorns x) {
        x.set(BraidHorns.FILL, 3);
        x.set(BraidHorns.PULL, 4);
        upward(x, 3);
        x.save(0);
        x.run(5);
        x.takeOut(1);
        x.snap(0);
        Checks.write(x, "r5;c0.1;");
    }

    private static void meet(BraidHorns x) {
        x.carrier(4, 3);
        x.carrier(5, 3);
        x.save(1);
        Checks.write(x, "x0;r2;x1");
    }

    private static void runLong(BraidHorns x, int last) {
        x.set(BraidHorns.FILL, 999);
        x.carrier(0, 1);
        for (int i = 0; i < 10; i++) {
            Checks.write(x, "f0" + ";r99".repeat(10));
            x.carryOut();
        }
        x.refill(0);
        x.run(last);
        Checks.write(x, "f0;r2");
    }
}
