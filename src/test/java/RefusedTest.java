/**
 * "A call that returns an error changes nothing." Of two twins one does the refused call; then both are held
 * against each other, with all that they can undo, restore and carry out.
 */
final class RefusedTest {
    private static final int NO_SUCH = BraidHorns.NO_SUCH;
    private static final int BAD_VALUE = BraidHorns.BAD_VALUE;
    private static final int TOO_MANY = BraidHorns.TOO_MANY;
    private static final int NOT_POSSIBLE = BraidHorns.NOT_POSSIBLE;

    private static final Checks checks = new Checks();

    private interface Call {
        int on(BraidHorns x);
    }

    public static void main(String[] args) {
        situations();
        for (Situations situation : Situations.values()) {
            refusedAnywhere(situation);
            looks(situation);
        }
        refusedEmpty();
        refusedFull();
        refusedUsed();
        refusedByTwoThatMeet();
        refusedByTheLastStep();
        refusedOrders();
        checks.end();
    }

    /** So that each situation is the one that its name says. */
    private static void situations() {
        int[][] due = {
            {0, 0, 0, 0}, {10, 7, 80, 6}, {2, 3, 8, 6}, {2, 0, 8, 2}, {1, 9901, 5, 6}, {1, 9999, 5, 6}};
        for (Situations situation : Situations.values()) {
            BraidHorns x = situation.make();
            int[] got = {Integer.bitCount(x.count(1)), x.count(2), x.count(13), x.count(14)};
            for (int i = 0; i < got.length; i++) {
                checks.due(situation + ", " + i, got[i], due[situation.ordinal()][i]);
            }
        }
    }

    private static void refused(Situations situation, String name, int due, Call call) {
        BraidHorns x = situation.make();
        checks.sentence("A call that returns an error changes nothing.");
        checks.due(situation + ", " + name, call.on(x), due);
        twins(situation + ", behind " + name, x, situation.make());
    }

    private static void twins(String when, BraidHorns got, BraidHorns want) {
        checks.same(when, got, want);
        for (int i = 0; i < 7; i++) {
            checks.due(when + ", undo()", got.undo(), want.undo());
            checks.same(when + ", undo " + i, got, want);
        }
        for (int slot = 0; slot < 2; slot++) {
            checks.due(when + ", restore(" + slot + ")", got.restore(slot), want.restore(slot));
            checks.same(when + ", restored " + slot, got, want);
        }
        checks.due(when + ", carryOut()", got.carryOut(), want.carryOut());
        checks.same(when + ", carried out", got, want);
        checks.due(when + ", wipe()", got.wipe(), want.wipe());
    }

    private static void refusedAnywhere(Situations s) {
        int horns = s.make().count(0);
        int[][] sets = {{-1, 2}, {3, 2}, {0, 1}, {0, 7}, {1, 0}, {1, 10}, {2, 0}, {2, 1000}, {Integer.MAX_VALUE, 2}};
        for (int[] a : sets) {
            refused(s, "set " + a[0] + " " + a[1], BAD_VALUE, x -> x.set(a[0], a[1]));
        }
        int[][] places = {{-1, 1}, {horns, 1}, {0, -1}, {0, 4}, {horns - 1, 4}, {horns - 1, -1}, {1 << 30, 1 << 30}};
        for (int[] a : places) {
            refused(s, "carrier " + a[0] + " " + a[1], NO_SUCH, x -> x.carrier(a[0], a[1]));
            refused(s, "at " + a[0] + " " + a[1], NO_SUCH, x -> x.at(a[0], a[1]));
        }
        for (int carrier : new int[] {-1, 10, Integer.MAX_VALUE, Integer.MIN_VALUE}) {
            refusedCarrier(s, carrier);
        }
        for (int steps : new int[] {0, 100, -1, Integer.MAX_VALUE, Integer.MIN_VALUE}) {
            refused(s, "run " + steps, BAD_VALUE, x -> x.run(steps));
        }
        for (int slot : new int[] {-1, 2, Integer.MAX_VALUE}) {
            refused(s, "save " + slot, BAD_VALUE, x -> x.save(slot));
            refused(s, "restore " + slot, BAD_VALUE, x -> x.restore(slot));
        }
        for (long word : new long[] {0, -1, 32, 127, 'r' << 8, 'r' << 16 | '1', 127 << 8 | 'r'}) {
            refused(s, "put " + word, BAD_VALUE, x -> x.put(word));
        }
        for (int rank : new int[] {-1, 10, Integer.MAX_VALUE}) {
            refused(s, "around " + rank, NO_SUCH, x -> x.around(rank));
        }
        refused(s, "count -1", BAD_VALUE, x -> x.count(-1));
        refused(s, "count 15", BAD_VALUE, x -> x.count(15));
        refused(s, "meeting -1", BAD_VALUE, x -> x.meeting(-1));
        refused(s, "meeting 4", BAD_VALUE, x -> x.meeting(4));
    }

    private static void refusedCarrier(Situations s, int carrier) {
        refused(s, "takeOut " + carrier, NO_SUCH, x -> x.takeOut(carrier));
        refused(s, "snap " + carrier, NO_SUCH, x -> x.snap(carrier));
        refused(s, "tie " + carrier, NO_SUCH, x -> x.tie(carrier));
        refused(s, "refill " + carrier, NO_SUCH, x -> x.refill(carrier));
        refused(s, "of " + carrier, NO_SUCH, x -> x.of(carrier, 0));
    }

    private static void refusedEmpty() {
        Situations s = Situations.NEW;
        for (int carrier = 0; carrier < 10; carrier++) {
            refusedCarrier(s, carrier);
        }
        refused(s, "around 0", NO_SUCH, x -> x.around(0));
        refused(s, "period", NOT_POSSIBLE, x -> x.period());
        refused(s, "carryOut", BraidHorns.BAD_TEXT, x -> x.carryOut());
        refused(s, "undo", NOT_POSSIBLE, x -> x.undo());
        refused(s, "restore 0", NOT_POSSIBLE, x -> x.restore(0));
        refused(s, "restore 1", NOT_POSSIBLE, x -> x.restore(1));
    }

    private static void refusedFull() {
        Situations s = Situations.FULL;
        for (int pairs = 2; pairs <= 6; pairs++) {
            int value = pairs;
            refused(s, "set 0 " + value, NOT_POSSIBLE, x -> x.set(BraidHorns.PAIRS, value));
        }
        refused(s, "an eleventh", TOO_MANY, x -> x.carrier(11, 3));
        for (int carrier = 0; carrier < 10; carrier++) {
            int number = carrier;
            BraidHorns place = s.make();
            int horn = place.of(carrier, 0);
            int notch = place.of(carrier, 1);
            refused(s, "carrier at " + number, NOT_POSSIBLE, x -> x.carrier(horn, notch));
            refused(s, "of " + number + ", -1", BAD_VALUE, x -> x.of(number, -1));
            refused(s, "of " + number + ", 8", BAD_VALUE, x -> x.of(number, 8));
            if (number != 4) {
                refused(s, "tie " + number, NOT_POSSIBLE, x -> x.tie(number));
            }
        }
        refused(s, "snap 4", NOT_POSSIBLE, x -> x.snap(4));
        refused(s, "put one", TOO_MANY, x -> x.put('r'));
        refused(s, "put eight", TOO_MANY, x -> x.put(Checks.word("r1;r2;r3")));
    }

    private static void refusedUsed() {
        Situations s = Situations.USED;
        refusedCarrier(s, 1);
        refusedCarrier(s, 3);
        refused(s, "set 0 2", NOT_POSSIBLE, x -> x.set(BraidHorns.PAIRS, 2));
        refused(s, "snap 0", NOT_POSSIBLE, x -> x.snap(0));
        refused(s, "tie 2", NOT_POSSIBLE, x -> x.tie(2));
        refused(s, "around 2", NO_SUCH, x -> x.around(2));
        refused(s, "carryOut", BraidHorns.BAD_TEXT, x -> x.carryOut());
        refused(s, "restore 1", NOT_POSSIBLE, x -> x.restore(1));
    }

    private static void refusedByTwoThatMeet() {
        Situations s = Situations.MEETING;
        refused(s, "carrier 4 3", NOT_POSSIBLE, x -> x.carrier(4, 3));
        refused(s, "restore 0", NOT_POSSIBLE, x -> x.restore(0));
        refused(s, "around 2", NO_SUCH, x -> x.around(2));
    }

    private static void refusedByTheLastStep() {
        Situations near = Situations.NEAR_THE_LAST_STEP;
        refused(near, "run 99", NOT_POSSIBLE, x -> x.run(99));
        checks.due("run 98", near.make().run(98), 98);
        Situations last = Situations.LAST_STEP;
        refused(last, "run 1", NOT_POSSIBLE, x -> x.run(1));
        refused(last, "run 99", NOT_POSSIBLE, x -> x.run(99));
    }

    /** The calls ahead of which the interface says that nothing changes, and the other ones that only tell. */
    private static void looks(Situations s) {
        BraidHorns x = s.make();
        for (int i = -1; i < 101; i++) {
            Checks.looks(x);
            int[] wrong = {x.of(i, i), x.at(i, i), x.around(i), x.count(i), x.meeting(i)};
            checks.due("looks", wrong.length, 5);
        }
        checks.sentence("what if; nothing changes (the bound of steps does not matter)");
        twins(s + ", behind looks", x, s.make());
    }

    private static void refusedOrders() {
        String[] orders = {"c6.1", "c0.4", "c0.1", "c99.9", "x1", "x9", "r0", "b1", "b9", "k0", "k1", "f1", "f9"};
        for (String order : orders) {
            BraidHorns x = new BraidHorns();
            Checks.write(x, "c0.1;" + order + ";r5");
            BraidHorns y = new BraidHorns();
            Checks.write(y, "c0.1");
            checks.sentence("A call that returns an error changes nothing.");
            checks.due("c0.1;" + order, x.carryOut(), y.carryOut());
            twins("behind c0.1;" + order, x, y);
        }
        BraidHorns x = Situations.LAST_STEP.make();
        BraidHorns y = Situations.LAST_STEP.make();
        x.wipe();
        y.wipe();
        Checks.write(x, "f0;r1;b0");
        Checks.write(y, "f0");
        checks.due("f0;r1;b0", x.carryOut(), y.carryOut());
        twins("behind f0;r1;b0", x, y);
    }
}
