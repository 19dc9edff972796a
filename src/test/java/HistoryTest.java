/** Promises 23 to 25: undo and saved states. */
final class HistoryTest {
    private static final Checks checks = new Checks();

    public static void main(String[] args) {
        whatUndoes();
        oneAfterTheOther();
        sixStates();
        errorsRecordNothing();
        nothingDifferent();
        saving();
        restoring();
        slotsStay();
        checks.end();
    }

    private static void whatUndoes() {
        BraidHorns x = new BraidHorns();
        checks.due("23: nothing", x.undo(), BraidHorns.NOT_POSSIBLE);
        x.set(BraidHorns.PAIRS, 4);
        checks.due("23: undo()", x.undo(), 0);
        checks.due("23: PAIRS", x.count(10), 3);
        x.carrier(0, 3);
        x.run(6);
        int[] before = looks(x);
        x.snap(0);
        x.undo();
        same("snap", before, x);
        x.run(99);
        x.undo();
        same("run", before, x);
        x.refill(0);
        x.undo();
        same("refill", before, x);
        x.takeOut(0);
        x.undo();
        same("takeOut", before, x);
        x.carrier(2, 3);
        x.undo();
        same("carrier", before, x);
        x.set(BraidHorns.FILL, 5);
        x.undo();
        same("set", before, x);
        x.snap(0);
        before = looks(x);
        x.tie(0);
        x.undo();
        same("tie", before, x);
        checks.due("23: left", x.count(14), 3);
    }

    /** Each change behind another one, so that none can find the state before it kept by chance. */
    private static void oneAfterTheOther() {
        String[] names = {"set", "carrier", "run", "snap", "tie", "refill", "takeOut", "carryOut", "restore"};
        for (int last = 0; last < names.length; last++) {
            for (int first = 0; first < names.length; first++) {
                BraidHorns x = new BraidHorns();
                x.save(1);
                x.carrier(0, 0);
                x.carrier(2, 0);
                x.run(2);
                x.snap(1);
                change(x, first);
                int[] before = looks(x);
                if (change(x, last) >= 0) {
                    x.undo();
                }
                same(names[first] + ", " + names[last], before, x);
            }
        }
    }

    private static int change(BraidHorns x, int change) {
        switch (change) {
            case 0: return x.set(BraidHorns.PULL, x.count(11) + 1);
            case 1: return x.carrier(x.firstFree() / 4, x.firstFree() % 4);
            case 2: return x.run(1);
            case 3: return x.snap(0);
            case 4: return x.tie(1);
            case 5: return x.refill(0);
            case 6: return x.takeOut(0);
            case 7:
                Checks.write(x, "r1;f0;b0");
                return x.carryOut();
            default: return x.restore(1);
        }
    }

    private static int[] looks(BraidHorns x) {
        int[] looks = new int[12 + 80];
        for (int what = 0; what < 12; what++) {
            looks[what] = x.count(what < 10 ? what : what + 1);
        }
        looks[10] = x.count(10);
        for (int i = 0; i < 80; i++) {
            looks[12 + i] = x.of(i / 8, i % 8);
        }
        return looks;
    }

    private static void same(String change, int[] before, BraidHorns x) {
        int[] now = looks(x);
        for (int i = 0; i < now.length; i++) {
            checks.due("23: behind " + change + ", look " + i, now[i], before[i]);
        }
    }

    private static void sixStates() {
        BraidHorns x = new BraidHorns();
        x.carrier(0, 1);
        for (int i = 2; i <= 9; i++) {
            x.run(1);
            checks.due("23: count(14)", x.count(14), Math.min(i, 6));
        }
        for (int i = 5; i >= 0; i--) {
            checks.due("23: undo()", x.undo(), i);
            checks.due("23: steps", x.count(2), 2 + i);
        }
        checks.due("23: no more", x.undo(), BraidHorns.NOT_POSSIBLE);
        checks.due("23: steps stay", x.count(2), 2);
        x.run(3);
        checks.due("23: one again", x.count(14), 1);
        checks.due("23: undo() again", x.undo(), 0);
        checks.due("23: steps again", x.count(2), 2);
    }

    private static void errorsRecordNothing() {
        BraidHorns x = new BraidHorns();
        x.carrier(0, 1);
        x.set(9, 9);
        x.set(BraidHorns.PAIRS, 4);
        x.carrier(0, 1);
        x.carrier(9, 9);
        x.takeOut(5);
        x.run(0);
        x.snap(5);
        x.tie(0);
        x.refill(5);
        x.carryOut();
        x.restore(0);
        x.restore(7);
        x.save(0);
        x.wipe();
        x.put('a');
        checks.due("23: one change only", x.count(14), 1);
        checks.due("23: undo()", x.undo(), 0);
        checks.due("23: no carrier", x.count(1), 0);
    }

    private static void nothingDifferent() {
        BraidHorns x = new BraidHorns();
        x.set(BraidHorns.PULL, 2);
        x.run(3);
        x.run(3);
        checks.due("23: also if nothing is different", x.count(14), 3);
        x.undo();
        checks.due("23: the reason stays", x.count(9), 1);
        x.undo();
        checks.due("23: the reason is undone", x.count(9), 0);
        x.save(0);
        x.restore(0);
        checks.due("23: restore() too", x.count(14), 2);
    }

    private static void saving() {
        BraidHorns x = new BraidHorns();
        checks.due("24: -1", x.save(-1), BraidHorns.BAD_VALUE);
        checks.due("24: 2", x.save(2), BraidHorns.BAD_VALUE);
        checks.due("24: most", x.save(Integer.MAX_VALUE), BraidHorns.BAD_VALUE);
        checks.due("24: none", x.save(1), 0);
        checks.due("25: the other slot", x.restore(0), BraidHorns.NOT_POSSIBLE);
        x.carrier(0, 1);
        x.carrier(2, 1);
        checks.due("24: two", x.save(0), 2);
        checks.due("24: no change", x.count(14), 2);
        x.takeOut(0);
        checks.due("24: over it", x.save(0), 1);
        x.takeOut(1);
        checks.due("25: what was saved last", x.restore(0), 1);
        checks.due("25: its carriers", x.count(1), 2);
        checks.due("25: the other one", x.restore(1), 0);
        checks.due("25: no carriers", x.count(1), 0);
    }

    private static void restoring() {
        BraidHorns x = new BraidHorns();
        checks.due("25: -1", x.restore(-1), BraidHorns.BAD_VALUE);
        checks.due("25: 2", x.restore(2), BraidHorns.BAD_VALUE);
        checks.due("25: least", x.restore(Integer.MIN_VALUE), BraidHorns.BAD_VALUE);
        checks.due("25: nothing saved", x.restore(1), BraidHorns.NOT_POSSIBLE);
        x.set(BraidHorns.PAIRS, 5);
        x.set(BraidHorns.PULL, 4);
        x.carrier(9, 1);
        x.run(61);
        x.snap(0);
        int[] before = looks(x);
        x.save(1);
        x.takeOut(0);
        x.set(BraidHorns.PAIRS, 2);
        x.set(BraidHorns.FILL, 3);
        x.run(2);
        Checks.write(x, "xyz");
        for (int i = 0; i < 2; i++) {
            checks.due("25: restore(1)", x.restore(1), 1);
            same("restore", before, x);
            x.tie(0);
            x.refill(0);
            x.run(7);
        }
        checks.due("25: the pad stays", x.count(13), 3);
        checks.due("25: the history stays", x.count(14), 6);
    }

    private static void slotsStay() {
        BraidHorns x = new BraidHorns();
        x.carrier(0, 1);
        x.save(0);
        x.undo();
        checks.due("25: undo() leaves the slots", x.restore(0), 1);
        x.run(5);
        checks.due("25: run() leaves the slots", x.restore(0), 1);
        checks.due("25: the steps", x.count(2), 0);
        checks.due("25: undo of restore()", x.undo(), 2);
        checks.due("25: the steps then", x.count(2), 5);
        x.run(5);
        x.save(1);
        x.restore(0);
        checks.due("25: each slot has its own", x.count(2), 0);
        x.restore(1);
        checks.due("25: each slot has its own", x.count(2), 10);
    }
}
