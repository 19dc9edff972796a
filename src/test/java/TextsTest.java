/** Promises 19 to 22: texts. */
final class TextsTest {
    private static final Checks checks = new Checks();

    public static void main(String[] args) {
        putting();
        badCharacters();
        fullPad();
        wiping();
        faults();
        everyOrder();
        upToAnError();
        oneChange();
        checks.end();
    }

    private static void putting() {
        BraidHorns x = new BraidHorns();
        checks.due("19: one", x.put('r'), 1);
        checks.due("19: eight", x.put(Checks.word("5;r6;r7;")), 9);
        checks.due("19: count(13)", x.count(13), 9);
        checks.due("19: in their order", x.fault(), 9);
        checks.due("19: no change", x.count(14), 0);
        x.put(Checks.word("r8"));
        checks.due("19: all of it", x.fault(), BraidHorns.NONE);
    }

    private static void badCharacters() {
        BraidHorns x = new BraidHorns();
        long[] bad = {0, -1, 32, 127, 128, 255, 'r' << 8, 'r' << 16 | '5', (long) 'r' << 56,
            (long) 'r' << 56 | '5', 'r' << 8 | 32, 32 << 8 | 'r', 127 << 8 | 'r', Long.MIN_VALUE, Long.MAX_VALUE,
            Checks.word("r1;r2;r3") | Long.MIN_VALUE, 1L << 63 | 'r', 1L << 32 | 'r'};
        for (long word : bad) {
            checks.due("19: put(" + word + ")", x.put(word), BraidHorns.BAD_VALUE);
        }
        checks.due("19: nothing is put", x.count(13), 0);
        checks.due("19: 33", x.put(33), 1);
        checks.due("19: 126", x.put(126), 2);
        checks.due("19: eight of 126", x.put(0x7E7E7E7E7E7E7E7EL), 10);
    }

    private static void fullPad() {
        BraidHorns x = new BraidHorns();
        for (int i = 1; i <= 9; i++) {
            checks.due("19: put", x.put(Checks.word("r1;r2;r3")), 8 * i);
        }
        x.put('a');
        checks.due("19: one too many", x.put(Checks.word("r1;r2;r3")), BraidHorns.TOO_MANY);
        checks.due("19: nothing is put", x.count(13), 73);
        checks.due("19: full", x.put(Checks.word("r1;r2;r")), 80);
        checks.due("19: one more", x.put('a'), BraidHorns.TOO_MANY);
        checks.due("19: a bad one goes first", x.put(0), BraidHorns.BAD_VALUE);
        checks.due("19: count(13)", x.count(13), 80);
    }

    private static void wiping() {
        BraidHorns x = new BraidHorns();
        checks.due("20: empty", x.wipe(), 0);
        Checks.write(x, "r12;x1");
        checks.due("20: six", x.wipe(), 6);
        checks.due("20: empty then", x.wipe(), 0);
        checks.due("20: count(13)", x.count(13), 0);
        checks.due("20: no change", x.count(14), 0);
        Checks.write(x, "x1");
        checks.due("20: nothing is left", x.fault(), BraidHorns.NONE);
    }

    private static void faults() {
        Object[][] due = {
            {"", 0}, {"q", 0}, {"c", 1}, {"cx", 1}, {"c0", 2}, {"c00", 2}, {"c01.1", 2}, {"c0.", 3}, {"c0.1", -6},
            {"c10", 3}, {"c10.1", -6}, {"c99.9", -6}, {"c100", 3}, {"c10;", 3}, {"c1;", 2}, {"c.1", 1}, {"c1.;", 3},
            {"c1.12", 4}, {"c1..1", 3}, {"r", 1}, {"r0", -6}, {"r00", 2}, {"r05", 2}, {"r5", -6}, {"r55", -6},
            {"r99", -6}, {"r100", 3}, {"r5.", 2}, {"r5;", 3}, {"r5;;", 3}, {";r5", 0}, {"r;", 1}, {"x", 1}, {"x0", -6},
            {"x9", -6}, {"x10", 2}, {"x00", 2}, {"x;", 1}, {"b3", -6}, {"k3", -6}, {"f3", -6}, {"bb", 1}, {"k-", 1},
            {"f1;f2;", 6}, {"c1.1;x2;r33;b4;k5;f6", -6}, {"C1.1", 0}, {"r1,r2", 2}, {"r/", 1}, {"r:", 1}, {"r1/", 2},
            {"r1:", 2}, {"a1", 0}, {"r12;y", 4}, {"r0;x0", -6}, {"c0.0;c9.9", -6}, {"r1r2", 2}, {"x1x2", 2},
            {"r10r2", 3},
        };
        for (Object[] row : due) {
            BraidHorns x = new BraidHorns();
            Checks.write(x, (String) row[0]);
            checks.due("21: fault of " + row[0], x.fault(), (Integer) row[1]);
            if ((Integer) row[1] != BraidHorns.NONE) {
                checks.due("22: " + row[0], x.carryOut(), BraidHorns.BAD_TEXT);
                checks.due("22: the pad stays", x.count(13), ((String) row[0]).length());
                checks.due("22: no change", x.count(14), 0);
            }
        }
    }

    private static void everyOrder() {
        BraidHorns x = new BraidHorns();
        Checks.write(x, "c0.3;c4.3;c3.1;x1;r12;b2;k2;f0;b0");
        checks.due("22: nine orders", x.carryOut(), 9);
        checks.due("22: the pad is empty", x.count(13), 0);
        int[] due = {6, 5, 12, 24, 1, 108, 240, 108, 24, 0, 3, 2, 60, 0, 1};
        for (int what = 0; what < due.length; what++) {
            checks.due("22: count(" + what + ")", x.count(what), due[what]);
        }
        checks.due("22: b0", x.of(0, 3), 1);
        checks.due("22: k2", x.of(2, 3), 0);
        checks.due("22: c0.3", x.at(0, 3), 0);
        checks.due("22: c3.1", x.at(3, 1), 2);
        BraidHorns y = new BraidHorns();
        y.set(BraidHorns.PAIRS, 6);
        Checks.write(y, "c11.3;r99;r99");
        checks.due("22: numbers of two digits", y.carryOut(), 3);
        checks.due("22: r99 twice", y.count(2), 60);
        checks.due("22: the reason", y.count(9), 3);
    }

    private static void upToAnError() {
        String[] texts = {"c0.1;c6.0;c2.1", "c0.1;c0.4;c2.1", "c0.1;c0.1;c2.1", "c0.1;x1;c2.1", "c0.1;r0;c2.1",
            "c0.1;b1;c2.1", "c0.1;k0;c2.1", "c0.1;f9;c2.1", "c0.1;c99.0;c2.1"};
        for (String text : texts) {
            BraidHorns x = new BraidHorns();
            Checks.write(x, text);
            checks.due("22: " + text, x.carryOut(), 1);
            checks.due("22: nothing behind the error", x.count(1), 1);
            checks.due("22: the pad is empty", x.count(13), 0);
        }
        BraidHorns y = new BraidHorns();
        Checks.write(y, "x0;c0.1");
        checks.due("22: none", y.carryOut(), 0);
        checks.due("22: a change all the same", y.count(14), 1);
        checks.due("22: nothing is done", y.count(1), 0);
        Checks.write(y, "r5;c0.1");
        checks.due("22: no step is no error", y.carryOut(), 2);
        checks.due("22: the reason", y.count(9), 1);
    }

    private static void oneChange() {
        BraidHorns x = new BraidHorns();
        x.carrier(0, 1);
        Checks.write(x, "c2.1;r1;r1;r1;r1;r1;r1;r1;r1");
        checks.due("22: nine orders", x.carryOut(), 9);
        checks.due("22: one change", x.count(14), 2);
        Checks.write(x, "abc");
        checks.due("23: undo()", x.undo(), 1);
        checks.due("23: the orders are undone", x.count(2), 0);
        checks.due("23: all of them", x.count(1), 1);
        checks.due("23: the pad stays", x.count(13), 3);
    }
}
