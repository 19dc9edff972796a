/** Promises 1 to 8: a new object, and the changes. */
final class ChangesTest {
    private static final Checks checks = new Checks();

    public static void main(String[] args) {
        newObject();
        settings();
        settingsWithCarriers();
        puttingCarriers();
        tenCarriers();
        takingOut();
        running();
        reasonsInOrder();
        mostSteps();
        contactsAllAround();
        snapping();
        tying();
        refilling();
        checks.end();
    }

    private static void newObject() {
        BraidHorns x = new BraidHorns();
        int[] due = {6, 0, 0, 0, 0, 0, 0, 0, 0, 0, 3, 2, 60, 0, 0};
        for (int what = 0; what < due.length; what++) {
            checks.due("1: count(" + what + ")", x.count(what), due[what]);
        }
        for (int horn = 0; horn < 6; horn++) {
            for (int notch = 0; notch < 4; notch++) {
                checks.due("1: at(" + horn + ", " + notch + ")", x.at(horn, notch), BraidHorns.NONE);
            }
        }
        checks.due("1: around(0)", x.around(0), BraidHorns.NO_SUCH);
        checks.due("1: why()", x.why(), 1);
        checks.due("1: undo()", x.undo(), BraidHorns.NOT_POSSIBLE);
        checks.due("1: restore(0)", x.restore(0), BraidHorns.NOT_POSSIBLE);
        checks.due("1: restore(1)", x.restore(1), BraidHorns.NOT_POSSIBLE);
    }

    private static void settings() {
        BraidHorns x = new BraidHorns();
        int[] first = {3, 2, 60};
        int[] low = {2, 1, 1};
        int[] high = {6, 9, 999};
        for (int setting = 0; setting < 3; setting++) {
            String call = "2: set(" + setting + ", ..)";
            checks.due(call + " below", x.set(setting, low[setting] - 1), BraidHorns.BAD_VALUE);
            checks.due(call + " above", x.set(setting, high[setting] + 1), BraidHorns.BAD_VALUE);
            checks.due(call + " least", x.set(setting, Integer.MIN_VALUE), BraidHorns.BAD_VALUE);
            checks.due(call + " most", x.set(setting, Integer.MAX_VALUE), BraidHorns.BAD_VALUE);
            checks.due(call + " low", x.set(setting, low[setting]), first[setting]);
            checks.due(call + " high", x.set(setting, high[setting]), low[setting]);
            checks.due(call + " again", x.set(setting, high[setting]), high[setting]);
            checks.due("2: count(" + (10 + setting) + ")", x.count(10 + setting), high[setting]);
        }
        checks.due("2: set(-1, 2)", x.set(-1, 2), BraidHorns.BAD_VALUE);
        checks.due("2: set(3, 2)", x.set(3, 2), BraidHorns.BAD_VALUE);
        checks.due("2: set(most, 2)", x.set(Integer.MAX_VALUE, 2), BraidHorns.BAD_VALUE);
        checks.due("2: set(least, 2)", x.set(Integer.MIN_VALUE, 2), BraidHorns.BAD_VALUE);
        checks.due("2: horns", x.count(0), 12);
    }

    private static void settingsWithCarriers() {
        BraidHorns x = new BraidHorns();
        x.carrier(0, 1);
        checks.due("2: PAIRS with a carrier", x.set(BraidHorns.PAIRS, 3), BraidHorns.NOT_POSSIBLE);
        checks.due("2: PAIRS out of range with a carrier", x.set(BraidHorns.PAIRS, 7), BraidHorns.BAD_VALUE);
        checks.due("2: PULL with a carrier", x.set(BraidHorns.PULL, 5), 2);
        checks.due("2: FILL with a carrier", x.set(BraidHorns.FILL, 7), 60);
        checks.due("2: FILL leaves the bobbin", x.of(0, 2), 60);
        checks.due("2: FILL at the next bobbin", x.carrier(2, 1), 1);
        checks.due("2: its ells", x.of(1, 2), 7);
        x.run(1);
        checks.due("2: PULL in a step", x.count(3), 5);
        x.takeOut(0);
        checks.due("2: PAIRS with one left", x.set(BraidHorns.PAIRS, 2), BraidHorns.NOT_POSSIBLE);
        x.takeOut(1);
        checks.due("2: PAIRS without carriers", x.set(BraidHorns.PAIRS, 2), 3);
        checks.due("2: the steps stay", x.count(2), 1);
    }

    private static void puttingCarriers() {
        BraidHorns x = new BraidHorns();
        checks.due("3: horn -1", x.carrier(-1, 0), BraidHorns.NO_SUCH);
        checks.due("3: horn 6", x.carrier(6, 0), BraidHorns.NO_SUCH);
        checks.due("3: notch -1", x.carrier(0, -1), BraidHorns.NO_SUCH);
        checks.due("3: notch 4", x.carrier(0, 4), BraidHorns.NO_SUCH);
        checks.due("3: horn and notch far out", x.carrier(Integer.MAX_VALUE, Integer.MIN_VALUE), BraidHorns.NO_SUCH);
        checks.due("3: first", x.carrier(5, 0), 0);
        checks.due("3: the same notch", x.carrier(5, 0), BraidHorns.NOT_POSSIBLE);
        checks.due("3: the contact around the end", x.carrier(0, 2), BraidHorns.NOT_POSSIBLE);
        checks.due("3: another contact", x.carrier(0, 0), 1);
        checks.due("3: its other notch", x.carrier(1, 2), BraidHorns.NOT_POSSIBLE);
        checks.due("3: inside", x.carrier(0, 1), 2);
        checks.due("3: outside", x.carrier(0, 3), 3);
        checks.due("3: inside again", x.carrier(0, 1), BraidHorns.NOT_POSSIBLE);
        checks.due("3: the other notch first", x.carrier(4, 2), 4);
        checks.due("3: then the first one", x.carrier(3, 0), BraidHorns.NOT_POSSIBLE);
        x.takeOut(3);
        x.takeOut(1);
        checks.due("3: the lowest free number", x.carrier(1, 2), 1);
        checks.due("3: the next free number", x.carrier(0, 3), 3);
        checks.due("3: ells put on bobbins", x.count(6), 420);
        checks.due("3: of(1, 2)", x.of(1, 2), 60);
    }

    private static void tenCarriers() {
        BraidHorns x = new BraidHorns();
        for (int i = 0; i < 10; i++) {
            checks.due("3: carrier " + i, x.carrier(i / 2, 1 + i % 2 * 2), i);
        }
        checks.due("3: an eleventh", x.carrier(5, 1), BraidHorns.TOO_MANY);
        checks.due("3: an eleventh on another", x.carrier(4, 1), BraidHorns.NOT_POSSIBLE);
        checks.due("3: an eleventh nowhere", x.carrier(6, 1), BraidHorns.NO_SUCH);
        checks.due("3: nothing is put", x.count(6), 600);
        x.takeOut(9);
        checks.due("3: a tenth again", x.carrier(5, 1), 9);
    }

    private static void takingOut() {
        BraidHorns x = new BraidHorns();
        checks.due("4: none there", x.takeOut(0), BraidHorns.NO_SUCH);
        x.carrier(0, 1);
        x.carrier(2, 1);
        x.run(7);
        x.snap(0);
        checks.due("4: -1", x.takeOut(-1), BraidHorns.NO_SUCH);
        checks.due("4: 10", x.takeOut(10), BraidHorns.NO_SUCH);
        checks.due("4: far out", x.takeOut(Integer.MAX_VALUE), BraidHorns.NO_SUCH);
        checks.due("4: far out below", x.takeOut(Integer.MIN_VALUE), BraidHorns.NO_SUCH);
        checks.due("4: takeOut(0)", x.takeOut(0), 53);
        checks.due("4: takeOut(0) again", x.takeOut(0), BraidHorns.NO_SUCH);
        checks.due("4: waste", x.count(5), 53);
        checks.due("4: on bobbins", x.count(7), 53);
        checks.due("4: spent stays", x.count(8), 14);
        checks.due("4: carriers", x.count(1), 2);
        checks.due("4: its broken end is gone", x.why(), 0);
        x.carrier(0, 3);
        checks.due("4: a new carrier is whole", x.of(0, 3), 0);
        checks.due("4: a new carrier did not spend", x.of(0, 6), 0);
        checks.due("4: nor go by inside", x.of(0, 4), 0);
        checks.due("4: nor go by outside", x.of(0, 5), 0);
    }

    private static void running() {
        BraidHorns x = new BraidHorns();
        checks.due("5: run(0)", x.run(0), BraidHorns.BAD_VALUE);
        checks.due("5: run(100)", x.run(100), BraidHorns.BAD_VALUE);
        checks.due("5: run(-1)", x.run(-1), BraidHorns.BAD_VALUE);
        checks.due("5: run(most)", x.run(Integer.MAX_VALUE), BraidHorns.BAD_VALUE);
        checks.due("5: run(1) without carriers", x.run(1), 0);
        checks.due("5: its reason", x.count(9), 1);
        x.carrier(1, 1);
        checks.due("5: an error leaves the reason", x.run(0), BraidHorns.BAD_VALUE);
        checks.due("5: the reason", x.count(9), 1);
        checks.due("5: run(60)", x.run(60), 60);
        checks.due("5: no reason though the bobbin is empty", x.count(9), 0);
        checks.due("5: run(1) with an empty bobbin", x.run(1), 0);
        checks.due("5: reason 3", x.count(9), 3);
        checks.due("5: the cord", x.count(3), 120);
        checks.due("5: the steps", x.count(2), 60);
        checks.due("5: spent", x.of(0, 6), 60);
        checks.due("5: inside", x.of(0, 4), 15);
        checks.due("5: outside", x.of(0, 5), 15);
        x.set(BraidHorns.FILL, 999);
        x.refill(0);
        checks.due("5: run(99)", x.run(99), 99);
        checks.due("5: no reason", x.count(9), 0);
    }

    private static void reasonsInOrder() {
        BraidHorns x = new BraidHorns();
        x.set(BraidHorns.FILL, 1);
        x.carrier(2, 1);
        x.run(1);
        x.carrier(0, 3);
        x.carrier(1, 3);
        x.snap(1);
        checks.due("5: broken goes first", x.run(2), 0);
        checks.due("5: reason 2", x.count(9), 2);
        x.tie(1);
        checks.due("5: empty goes next", x.run(2), 0);
        checks.due("5: reason 3", x.count(9), 3);
        x.refill(0);
        checks.due("5: meeting goes last", x.run(2), 0);
        checks.due("5: reason 4", x.count(9), 4);
        x.takeOut(2);
        checks.due("5: one step", x.run(2), 1);
        checks.due("5: reason 3 then", x.count(9), 3);
    }

    private static void mostSteps() {
        BraidHorns x = new BraidHorns();
        x.set(BraidHorns.FILL, 999);
        x.carrier(0, 1);
        for (int i = 0; i < 101; i++) {
            if (i % 10 == 0) {
                x.refill(0);
            }
            checks.due("5: run(99)", x.run(99), 99);
        }
        checks.due("5: 9999 steps", x.count(2), 9999);
        checks.due("5: one more", x.run(1), BraidHorns.NOT_POSSIBLE);
        checks.due("5: a bad value goes first", x.run(100), BraidHorns.BAD_VALUE);
        checks.due("5: why() does not matter", x.why(), 0);
        checks.due("5: lasts() does not matter", x.lasts() > 0 ? 1 : 0, 1);
        x.snap(0);
        checks.due("5: also if none would be done", x.run(1), BraidHorns.NOT_POSSIBLE);
        x.undo();
        x.undo();
        checks.due("5: 98 more would do", x.run(98), 98);
        checks.due("5: two more would not", x.run(2), BraidHorns.NOT_POSSIBLE);
        checks.due("5: one more would", x.run(1), 1);
    }

    private static void contactsAllAround() {
        BraidHorns x = new BraidHorns();
        x.carrier(5, 1);
        int[][] due = {{0, 2}, {0, 3}, {1, 2}, {1, 1}, {2, 2}, {2, 3}, {3, 2}, {3, 1}, {4, 2}, {4, 3}, {5, 2}, {5, 1}};
        for (int[] place : due) {
            x.run(1);
            checks.due("5: horn", x.of(0, 0), place[0]);
            checks.due("5: notch", x.of(0, 1), place[1]);
        }
        BraidHorns y = new BraidHorns();
        y.carrier(0, 1);
        int[][] back = {{5, 0}, {5, 3}, {4, 0}, {4, 1}, {3, 0}, {3, 3}, {2, 0}, {2, 1}, {1, 0}, {1, 3}, {0, 0}, {0, 1}};
        for (int[] place : back) {
            y.run(1);
            checks.due("5: horn back", y.of(0, 0), place[0]);
            checks.due("5: notch back", y.of(0, 1), place[1]);
        }
    }

    private static void snapping() {
        BraidHorns x = new BraidHorns();
        checks.due("6: none there", x.snap(0), BraidHorns.NO_SUCH);
        x.carrier(0, 1);
        x.carrier(2, 1);
        checks.due("6: -1", x.snap(-1), BraidHorns.NO_SUCH);
        checks.due("6: 10", x.snap(10), BraidHorns.NO_SUCH);
        checks.due("6: far out", x.snap(Integer.MAX_VALUE), BraidHorns.NO_SUCH);
        checks.due("6: snap(1)", x.snap(1), 1);
        checks.due("6: snap(1) again", x.snap(1), BraidHorns.NOT_POSSIBLE);
        checks.due("6: snap(0)", x.snap(0), 2);
        checks.due("6: of(0, 3)", x.of(0, 3), 1);
        x.takeOut(1);
        checks.due("6: snap(1) taken out", x.snap(1), BraidHorns.NO_SUCH);
        x.carrier(2, 1);
        checks.due("6: snap(1) new", x.snap(1), 2);
    }

    private static void tying() {
        BraidHorns x = new BraidHorns();
        checks.due("7: none there", x.tie(0), BraidHorns.NO_SUCH);
        x.carrier(0, 1);
        checks.due("7: -1", x.tie(-1), BraidHorns.NO_SUCH);
        checks.due("7: 10", x.tie(10), BraidHorns.NO_SUCH);
        checks.due("7: whole", x.tie(0), BraidHorns.NOT_POSSIBLE);
        for (int i = 1; i < 4; i++) {
            x.snap(0);
            checks.due("7: tie(0)", x.tie(0), i);
            checks.due("7: whole again", x.of(0, 3), 0);
        }
        checks.due("7: knots", x.count(4), 3);
        checks.due("7: whole", x.tie(0), BraidHorns.NOT_POSSIBLE);
        x.takeOut(0);
        checks.due("7: knots stay", x.count(4), 3);
    }

    private static void refilling() {
        BraidHorns x = new BraidHorns();
        checks.due("8: none there", x.refill(0), BraidHorns.NO_SUCH);
        x.carrier(0, 1);
        checks.due("8: -1", x.refill(-1), BraidHorns.NO_SUCH);
        checks.due("8: 10", x.refill(10), BraidHorns.NO_SUCH);
        x.run(25);
        x.set(BraidHorns.FILL, 10);
        x.snap(0);
        checks.due("8: refill(0)", x.refill(0), 35);
        checks.due("8: ells", x.of(0, 2), 10);
        checks.due("8: the end stays broken", x.of(0, 3), 1);
        checks.due("8: what it spent stays", x.of(0, 6), 25);
        checks.due("8: refill(0) of a full one", x.refill(0), 10);
        checks.due("8: waste", x.count(5), 45);
        checks.due("8: put on bobbins", x.count(6), 80);
        checks.due("8: on bobbins", x.count(7), 10);
    }
}
