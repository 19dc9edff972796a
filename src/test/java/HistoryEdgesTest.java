/** Promises 23 to 25: each sentence that names a boundary case has a test of its own. */
final class HistoryEdgesTest {
    private static final int BAD_VALUE = BraidHorns.BAD_VALUE;
    private static final int NOT_POSSIBLE = BraidHorns.NOT_POSSIBLE;
    private static final int LAST_CHANGE = 8;

    private static final Checks checks = new Checks();

    public static void main(String[] args) {
        undoNone();
        undoHowMany();
        atMostSixStates();
        oldestIsDropped();
        undoEverything();
        undoLeavesThePad();
        undoLeavesTheSlots();
        undoIsNoChange();
        eachMethodRecords();
        alsoIfNothingIsDifferent();
        errorsRecordNothing();
        ordersRecordNothing();
        undoAgainAndAgain();
        saveNoSuchSlot();
        saveHowMany();
        saveOverwrites();
        saveIsNoChange();
        saveEverything();
        saveLeavesThePadAndTheHistory();
        restoreNoSuchSlot();
        restoreNothingSaved();
        restoreHowMany();
        restoreKeepsTheSlot();
        restoreIsAChange();
        restoreWithAFullHistory();
        restorePairs();
        manyCalls();
        checks.end();
    }

    /** A change of each kind, none of which is refused on the tracks of readyForAll(). */
    private static int change(BraidHorns x, int change) {
        switch (change) {
            case 0: return x.set(BraidHorns.PULL, 7);
            case 1: return x.carrier(5, 3);
            case 2: return x.takeOut(0);
            case 3: return x.run(2);
            case 4: return x.snap(1);
            case 5: return x.tie(2);
            case 6: return x.refill(0);
            case 7:
                x.wipe();
                Checks.write(x, "k2;r3;b0");
                return x.carryOut();
            default: return x.restore(1);
        }
    }

    private static BraidHorns readyForAll() {
        BraidHorns x = new BraidHorns();
        x.carrier(3, 3);
        x.save(1);
        x.undo();
        Situations.upward(x, 3);
        x.run(3);
        x.snap(2);
        return x;
    }

    /** All looks but the length of the pad, its fault and how many changes can be undone. */
    private static void sameTrack(String when, BraidHorns x, int[] due) {
        int[] got = Checks.looks(x);
        for (int i = 0; i < due.length - 1; i++) {
            if (i != 13 && i != 14) {
                checks.due(when + ", look " + i, got[i], due[i]);
            }
        }
    }

    private static void undoNone() {
        checks.sentence("23: NOT_POSSIBLE if there is none");
        BraidHorns x = new BraidHorns();
        checks.due("a new track", x.undo(), NOT_POSSIBLE);
        x.save(0);
        Checks.write(x, "r1");
        checks.due("save() and put() are no changes", x.undo(), NOT_POSSIBLE);
        x.carrier(0, 1);
        checks.due("one", x.undo(), 0);
        checks.due("none again", x.undo(), NOT_POSSIBLE);
        for (int i = 0; i < 9; i++) {
            x.run(1);
        }
        for (int i = 5; i >= 0; i--) {
            checks.due("of six", x.undo(), i);
        }
        checks.due("none behind six", x.undo(), NOT_POSSIBLE);
        checks.due("none again", x.undo(), NOT_POSSIBLE);
    }

    private static void undoHowMany() {
        checks.sentence("23: Returns how many changes can be undone then");
        for (int changes = 1; changes <= 9; changes++) {
            BraidHorns x = new BraidHorns();
            for (int i = 0; i < changes; i++) {
                x.run(1);
            }
            checks.due("behind " + changes, x.undo(), Math.min(changes, 6) - 1);
            checks.due("count(14)", x.count(14), Math.min(changes, 6) - 1);
        }
    }

    private static void atMostSixStates() {
        checks.sentence("23: A history of at most 6 states is kept");
        for (int changes = 1; changes <= 20; changes++) {
            BraidHorns x = new BraidHorns();
            x.carrier(0, 1);
            for (int i = 1; i < changes; i++) {
                x.run(1);
            }
            int undone = 0;
            while (x.undo() >= 0) {
                undone++;
            }
            checks.due("of " + changes, undone, Math.min(changes, 6));
            checks.due("steps", x.count(2), Math.max(changes - 7, 0));
            checks.due("carriers", x.count(1), changes <= 6 ? 0 : 1);
        }
    }

    private static void oldestIsDropped() {
        checks.sentence("23: when one more is recorded, the oldest one is dropped");
        BraidHorns x = new BraidHorns();
        x.carrier(0, 1);
        for (int i = 0; i < 5; i++) {
            x.run(1);
        }
        checks.due("six", x.count(14), 6);
        x.run(1);
        checks.due("six and one", x.count(14), 6);
        for (int steps = 5; steps >= 0; steps--) {
            checks.due("undo", x.undo(), steps);
            checks.due("steps", x.count(2), steps);
        }
        checks.due("the first change is not undone", x.count(1), 1);
        checks.due("none", x.undo(), NOT_POSSIBLE);
    }

    private static void undoEverything() {
        checks.sentence("23: everything except the pad, the slots and the history is as it was before it");
        for (int change = 0; change <= LAST_CHANGE; change++) {
            BraidHorns x = readyForAll();
            int[] before = Checks.looks(x);
            checks.due("change " + change + " is no error", change(x, change) >= 0 ? 1 : 0, 1);
            checks.due("undo", x.undo(), 5);
            sameTrack("change " + change + " undone", x, before);
            int[] first = Checks.looks(x);
            change(x, change);
            change(x, (change + 3) % (LAST_CHANGE + 1));
            x.undo();
            x.undo();
            sameTrack("two changes undone from " + change, x, first);
        }
    }

    private static void undoLeavesThePad() {
        checks.sentence("23: everything except the pad");
        BraidHorns x = new BraidHorns();
        x.carrier(0, 1);
        Checks.write(x, "r5");
        x.undo();
        checks.due("characters put behind the change", x.count(13), 2);
        checks.due("its fault", x.fault(), BraidHorns.NONE);
        x.carrier(2, 1);
        checks.due("carried out", x.carryOut(), 1);
        x.undo();
        checks.due("the pad that was carried out stays empty", x.count(13), 0);
        Checks.write(x, "x9;");
        x.carrier(4, 1);
        x.wipe();
        x.undo();
        checks.due("the pad that was wiped stays empty", x.count(13), 0);
    }

    private static void undoLeavesTheSlots() {
        checks.sentence("23: everything except the slots");
        BraidHorns x = new BraidHorns();
        x.carrier(0, 1);
        x.carrier(2, 1);
        x.save(0);
        x.undo();
        x.undo();
        checks.due("what was saved behind the changes", x.restore(0), 2);
        x.save(1);
        x.undo();
        checks.due("what was saved behind restore()", x.restore(1), 2);
        x.undo();
        checks.due("nothing is left", x.count(1), 0);
    }

    private static void undoIsNoChange() {
        checks.sentence("23: Undoes the latest change");
        BraidHorns x = new BraidHorns();
        x.carrier(0, 1);
        x.run(1);
        x.run(2);
        checks.due("the latest one", x.undo(), 2);
        checks.due("steps", x.count(2), 1);
        checks.due("the one before it", x.undo(), 1);
        checks.due("steps", x.count(2), 0);
        x.run(4);
        checks.due("behind undo() another one", x.count(14), 2);
        checks.due("the latest one", x.undo(), 1);
        checks.due("steps", x.count(2), 0);
    }

    private static void eachMethodRecords() {
        checks.sentence("23: each method that is a change, and returns no error, records the state before it");
        for (int change = 0; change <= LAST_CHANGE; change++) {
            BraidHorns x = readyForAll();
            x.undo();
            x.undo();
            int changes = x.count(14);
            x.snap(2);
            change(x, change);
            checks.due("change " + change, x.count(14), changes + 2);
        }
    }

    private static void alsoIfNothingIsDifferent() {
        checks.sentence("23: (also if nothing is different then)");
        BraidHorns x = new BraidHorns();
        x.set(BraidHorns.PAIRS, 3);
        checks.due("set() to the same value", x.count(14), 1);
        x.save(0);
        x.restore(0);
        checks.due("restore() of the same state", x.count(14), 2);
        Checks.write(x, "x0");
        x.carryOut();
        checks.due("carryOut() of no order", x.count(14), 3);
        x.run(5);
        checks.due("run() without a carrier", x.count(14), 4);
        x.run(5);
        checks.due("run() once more", x.count(14), 5);
        BraidHorns y = new BraidHorns();
        y.carrier(0, 1);
        y.refill(0);
        y.refill(0);
        checks.due("refill() of a full one", y.count(14), 3);
        y.undo();
        checks.due("waste", y.count(5), 60);
    }

    private static void errorsRecordNothing() {
        checks.sentence("23: and returns no error");
        BraidHorns x = new BraidHorns();
        x.carrier(0, 1);
        x.run(1);
        // The carrier is at the notch 0 of the horn 5 then.
        int[] errors = {x.set(0, 4), x.set(3, 3), x.set(1, 10), x.carrier(6, 0), x.carrier(5, 4), x.carrier(5, 0),
            x.carrier(0, 2), x.takeOut(1), x.run(0), x.run(100), x.snap(1), x.tie(0), x.tie(1), x.refill(1),
            x.carryOut(), x.restore(0), x.restore(2), x.save(2), x.put(0)};
        for (int i = 0; i < errors.length; i++) {
            checks.due("error " + i, errors[i] < 0 ? 1 : 0, 1);
        }
        checks.due("changes", x.count(14), 2);
        checks.due("undo", x.undo(), 1);
        checks.due("the latest one that was no error", x.count(2), 0);
        checks.due("undo", x.undo(), 0);
        checks.due("carriers", x.count(1), 0);
    }

    private static void ordersRecordNothing() {
        checks.sentence("23: An order of a text records nothing by itself.");
        BraidHorns x = new BraidHorns();
        Checks.write(x, "c0.1;c2.1;r1;r2;b0;k0;f1;x1");
        checks.due("orders", x.carryOut(), 8);
        checks.due("changes", x.count(14), 1);
        checks.due("undo", x.undo(), 0);
        checks.due("carriers", x.count(1), 0);
        checks.due("steps", x.count(2), 0);
        checks.due("undo", x.undo(), NOT_POSSIBLE);
    }

    private static void undoAgainAndAgain() {
        checks.sentence("23: A history of at most 6 states is kept");
        BraidHorns x = new BraidHorns();
        x.carrier(0, 1);
        int[] steps = new int[60];
        int latest = 0;
        // Two changes and an undo() in turns: the history is full before long, and stays whole.
        for (int i = 0; i < 50; i++) {
            x.run(1);
            latest++;
            steps[latest] = x.count(2);
            if (i % 3 == 2) {
                x.undo();
                latest--;
                checks.due("undo " + i, x.count(2), steps[latest]);
                x.refill(0);
                x.undo();
                checks.due("undo of refill " + i, x.count(2), steps[latest]);
            }
        }
        for (int left = x.count(14); left > 0; left--) {
            x.undo();
            latest--;
            checks.due("undo to " + left, x.count(2), steps[latest]);
        }
        checks.due("none", x.undo(), NOT_POSSIBLE);
    }

    private static void saveNoSuchSlot() {
        checks.sentence("24: BAD_VALUE if there is no such slot");
        BraidHorns x = new BraidHorns();
        for (int slot : new int[] {-1, 2, 3, Integer.MIN_VALUE, Integer.MAX_VALUE}) {
            checks.due("save " + slot, x.save(slot), BAD_VALUE);
        }
        checks.due("nothing is saved in 0", x.restore(0), NOT_POSSIBLE);
        checks.due("nothing is saved in 1", x.restore(1), NOT_POSSIBLE);
        checks.due("save 0", x.save(0), 0);
        checks.due("save 1", x.save(1), 0);
    }

    private static void saveHowMany() {
        checks.sentence("24: Returns how many carriers there are");
        BraidHorns x = new BraidHorns();
        x.set(BraidHorns.PAIRS, 6);
        checks.due("none", x.save(0), 0);
        for (int i = 0; i < 10; i++) {
            x.carrier(i, 1);
            checks.due("carriers", x.save(i % 2), i + 1);
        }
        x.takeOut(0);
        checks.due("one less", x.save(0), 9);
    }

    private static void saveOverwrites() {
        checks.sentence("24: overwrites what was saved there");
        BraidHorns x = new BraidHorns();
        x.carrier(0, 1);
        x.carrier(2, 1);
        x.save(0);
        x.save(1);
        x.takeOut(1);
        x.save(0);
        x.takeOut(0);
        checks.due("the later one", x.restore(0), 1);
        checks.due("the other slot", x.restore(1), 2);
    }

    private static void saveIsNoChange() {
        checks.sentence("24: Saves everything");
        BraidHorns x = new BraidHorns();
        x.carrier(0, 1);
        for (int i = 0; i < 9; i++) {
            x.save(i % 2);
            checks.due("changes", x.count(14), 1);
        }
        checks.due("undo", x.undo(), 0);
        checks.due("carriers", x.count(1), 0);
    }

    private static void saveEverything() {
        checks.sentence("24: Saves everything except the pad, the history and the slots");
        for (Situations situation : Situations.values()) {
            BraidHorns x = situation.make();
            int[] due = Checks.looks(x);
            x.save(0);
            for (int i = 0; i < 10; i++) {
                x.takeOut(i);
            }
            x.set(BraidHorns.PAIRS, 5);
            x.set(BraidHorns.PULL, 5);
            x.set(BraidHorns.FILL, 55);
            x.carrier(9, 3);
            x.run(1);
            x.snap(0);
            x.run(1);
            x.tie(0);
            x.restore(0);
            sameTrack(situation + " restored", x, due);
        }
    }

    private static void saveLeavesThePadAndTheHistory() {
        checks.sentence("24: everything except the pad, the history and the slots");
        BraidHorns x = new BraidHorns();
        x.carrier(0, 1);
        Checks.write(x, "abc");
        x.save(0);
        x.wipe();
        x.run(1);
        x.run(1);
        x.restore(0);
        checks.due("the pad is not restored", x.count(13), 0);
        checks.due("nor is the history", x.count(14), 4);
        Checks.write(x, "de");
        x.restore(0);
        checks.due("the pad stays", x.count(13), 2);
        x.carrier(2, 1);
        x.save(1);
        x.restore(0);
        checks.due("nor are the slots", x.restore(1), 2);
    }

    private static void restoreNoSuchSlot() {
        checks.sentence("25: BAD_VALUE if there is no such slot");
        for (Situations situation : Situations.values()) {
            BraidHorns x = situation.make();
            for (int slot : new int[] {-1, 2, 3, Integer.MIN_VALUE, Integer.MAX_VALUE}) {
                checks.due(situation + ", restore " + slot, x.restore(slot), BAD_VALUE);
            }
        }
    }

    private static void restoreNothingSaved() {
        checks.sentence("25: NOT_POSSIBLE if nothing was saved in it");
        for (int slot = 0; slot < 2; slot++) {
            BraidHorns x = new BraidHorns();
            x.carrier(0, 1);
            checks.due("restore " + slot, x.restore(slot), NOT_POSSIBLE);
            x.save(1 - slot);
            checks.due("the other one is saved", x.restore(slot), NOT_POSSIBLE);
            x.restore(1 - slot);
            checks.due("the other one is restored", x.restore(slot), NOT_POSSIBLE);
            x.save(slot);
            checks.due("saved", x.restore(slot), 1);
        }
    }

    private static void restoreHowMany() {
        checks.sentence("25: Returns how many carriers there are then");
        BraidHorns x = new BraidHorns();
        x.save(0);
        x.set(BraidHorns.PAIRS, 6);
        Situations.upward(x, 10);
        x.save(1);
        checks.due("none", x.restore(0), 0);
        checks.due("ten", x.restore(1), 10);
        x.takeOut(3);
        checks.due("ten again", x.restore(1), 10);
    }

    private static void restoreKeepsTheSlot() {
        checks.sentence("25: Restores what was saved last in a slot, which keeps it.");
        BraidHorns x = new BraidHorns();
        x.carrier(0, 1);
        x.run(3);
        x.save(0);
        int[] due = Checks.looks(x);
        for (int i = 0; i < 8; i++) {
            checks.due("restore", x.restore(0), 1);
            sameTrack("restored " + i, x, due);
            x.run(1 + i);
            x.snap(0);
            x.refill(0);
            x.set(BraidHorns.FILL, 100 + i);
            if (i % 2 == 1) {
                x.undo();
                x.takeOut(0);
            }
        }
    }

    private static void restoreIsAChange() {
        checks.sentence("25: This is a change.");
        BraidHorns x = new BraidHorns();
        x.save(0);
        x.carrier(0, 1);
        x.run(4);
        int[] before = Checks.looks(x);
        x.restore(0);
        checks.due("changes", x.count(14), 3);
        checks.due("undo", x.undo(), 2);
        sameTrack("restore() undone", x, before);
        checks.due("undo", x.undo(), 1);
        checks.due("steps", x.count(2), 0);
    }

    private static void restoreWithAFullHistory() {
        checks.sentence("25: This is a change.");
        BraidHorns x = Situations.FULL.make();
        int[] before = Checks.looks(x);
        checks.due("restore", x.restore(1), 10);
        checks.due("changes", x.count(14), 6);
        checks.due("undo", x.undo(), 5);
        sameTrack("restore() undone", x, before);
    }

    private static void restorePairs() {
        checks.sentence("25: Restores what was saved last in a slot");
        BraidHorns x = new BraidHorns();
        x.set(BraidHorns.PAIRS, 6);
        x.carrier(11, 1);
        x.save(0);
        x.takeOut(0);
        x.set(BraidHorns.PAIRS, 2);
        x.carrier(3, 1);
        x.restore(0);
        checks.due("horns", x.count(0), 12);
        checks.due("at the last one", x.at(11, 1), 0);
        x.undo();
        checks.due("horns", x.count(0), 4);
        checks.due("at the last one", x.at(3, 1), 0);
        checks.due("behind it", x.at(11, 1), BraidHorns.NO_SUCH);
    }

    private static void manyCalls() {
        checks.sentence("An object is used for at most 512 calls after it has been made");
        BraidHorns x = new BraidHorns();
        x.set(BraidHorns.FILL, 999);
        x.carrier(0, 1);
        for (int call = 2; call < 510; call++) {
            checks.due("run", x.run(1), 1);
        }
        checks.due("steps", x.count(2), 508);
        checks.due("undo", x.undo(), 5);
    }
}
