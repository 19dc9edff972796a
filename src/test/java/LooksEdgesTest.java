/** Promises 9 to 12: each sentence that names a boundary case has a test of its own. */
final class LooksEdgesTest {
    private static final int NO_SUCH = BraidHorns.NO_SUCH;
    private static final int BAD_VALUE = BraidHorns.BAD_VALUE;
    private static final int NONE = BraidHorns.NONE;
    private static final int[] FAR_OUT = {Integer.MIN_VALUE, Integer.MIN_VALUE + 1, -100, 100, 1 << 30,
        Integer.MAX_VALUE};

    private static final Checks checks = new Checks();

    public static void main(String[] args) {
        ofNoSuch();
        ofWhatOutOfRange();
        ofSinceItWasPut();
        ofBrokenEnd();
        ofWhichWay();
        atNoSuch();
        atNone();
        atEveryPlace();
        aroundFirstOne();
        aroundNotSoMany();
        aroundByHornsAndNotches();
        countOutOfRange();
        countReason();
        countNoReason();
        countReasonOfOrders();
        countWaste();
        countBobbins();
        countPad();
        countChanges();
        checks.end();
    }

    private static void ofNoSuch() {
        checks.sentence("9: NO_SUCH if there is no such carrier");
        BraidHorns x = new BraidHorns();
        for (int what = -1; what <= 8; what++) {
            checks.due("of(0, " + what + ")", x.of(0, what), NO_SUCH);
        }
        BraidHorns full = Situations.FULL.make();
        for (int what = -1; what <= 8; what++) {
            checks.due("of(-1, " + what + ")", full.of(-1, what), NO_SUCH);
            checks.due("of(10, " + what + ")", full.of(10, what), NO_SUCH);
        }
        checks.due("the last number", full.of(9, 3), 0);
        for (int carrier : FAR_OUT) {
            checks.due("of(" + carrier + ", 0)", full.of(carrier, 0), NO_SUCH);
        }
        full.takeOut(9);
        checks.due("taken out", full.of(9, 3), NO_SUCH);
    }

    private static void ofWhatOutOfRange() {
        checks.sentence("9: BAD_VALUE if what is out of range");
        BraidHorns x = new BraidHorns();
        x.carrier(2, 3);
        checks.due("of(0, -1)", x.of(0, -1), BAD_VALUE);
        checks.due("of(0, 8)", x.of(0, 8), BAD_VALUE);
        checks.due("of(0, 9)", x.of(0, 9), BAD_VALUE);
        for (int what : FAR_OUT) {
            checks.due("of(0, " + what + ")", x.of(0, what), BAD_VALUE);
        }
        int[] due = {2, 3, 60, 0, 0, 0, 0, 1};
        for (int what = 0; what < 8; what++) {
            checks.due("of(0, " + what + ")", x.of(0, what), due[what]);
        }
    }

    private static void ofSinceItWasPut() {
        checks.sentence("9: how often it went by, since it was put, ells that it spent since then");
        BraidHorns x = new BraidHorns();
        x.carrier(0, 2);
        x.run(9);
        // By turning it comes into 0.3, 1.1, 2.3, 3.1 and 4.3, each behind two steps.
        passings(x, 2, 3, 9);
        x.refill(0);
        passings(x, 2, 3, 9);
        x.snap(0);
        x.tie(0);
        passings(x, 2, 3, 9);
        x.run(2);
        passings(x, 3, 3, 11);
        x.undo();
        passings(x, 2, 3, 9);
        x.takeOut(0);
        x.carrier(0, 2);
        passings(x, 0, 0, 0);
        x.run(1);
        passings(x, 0, 1, 1);
    }

    private static void passings(BraidHorns x, int inner, int outer, int spent) {
        checks.due("inner side", x.of(0, 4), inner);
        checks.due("outer side", x.of(0, 5), outer);
        checks.due("spent", x.of(0, 6), spent);
    }

    private static void ofBrokenEnd() {
        checks.sentence("9: whether its end is broken (1 or 0)");
        BraidHorns x = new BraidHorns();
        x.carrier(0, 1);
        x.carrier(2, 1);
        checks.due("whole", x.of(1, 3), 0);
        x.snap(1);
        checks.due("broken", x.of(1, 3), 1);
        checks.due("the other one", x.of(0, 3), 0);
        x.refill(1);
        checks.due("a full bobbin does not tie it", x.of(1, 3), 1);
        x.tie(1);
        checks.due("tied", x.of(1, 3), 0);
        x.snap(1);
        x.takeOut(1);
        x.carrier(2, 1);
        checks.due("a new one", x.of(1, 3), 0);
    }

    private static void ofWhichWay() {
        checks.sentence("9: which way it goes: 1 towards horns with higher numbers, 0 the other way round");
        for (int pairs = 2; pairs <= 6; pairs++) {
            int horns = 2 * pairs;
            for (int place = 0; place < 4 * horns; place++) {
                BraidHorns x = new BraidHorns();
                x.set(BraidHorns.PAIRS, pairs);
                x.carrier(place / 4, place % 4);
                int way = x.of(0, 7);
                x.run(1);
                if (x.of(0, 0) == place / 4) {
                    x.run(1);
                }
                int next = place / 4 == horns - 1 ? 0 : place / 4 + 1;
                checks.due("pairs " + pairs + ", place " + place, way, x.of(0, 0) == next ? 1 : 0);
                checks.due("it came to another horn", x.of(0, 0) == place / 4 ? 1 : 0, 0);
                checks.due("the way stays", x.of(0, 7), way);
            }
        }
    }

    private static void atNoSuch() {
        checks.sentence("10: NO_SUCH if there is no such horn or notch");
        for (Situations situation : new Situations[] {Situations.NEW, Situations.FULL}) {
            BraidHorns x = situation.make();
            int horns = x.count(0);
            for (int i = -1; i <= horns; i++) {
                boolean horn = i >= 0 && i < horns;
                for (int notch = -1; notch <= 4; notch++) {
                    boolean place = horn && notch >= 0 && notch < 4;
                    checks.due("at " + i + " " + notch, x.at(i, notch) == NO_SUCH ? 1 : 0, place ? 0 : 1);
                }
            }
            for (int far : FAR_OUT) {
                checks.due("at " + far + " 0", x.at(far, 0), NO_SUCH);
                checks.due("at 0 " + far, x.at(0, far), NO_SUCH);
                checks.due("at both", x.at(far, far), NO_SUCH);
            }
        }
    }

    private static void atNone() {
        checks.sentence("10: NONE if there is none");
        BraidHorns x = new BraidHorns();
        x.carrier(5, 0);
        checks.due("the other notch of its contact", x.at(0, 2), NONE);
        checks.due("another notch of its horn", x.at(5, 2), NONE);
        x.run(1);
        checks.due("where it was", x.at(5, 0), NONE);
        x.takeOut(0);
        checks.due("taken out", x.at(5, 3), NONE);
    }

    private static void atEveryPlace() {
        checks.sentence("10: Returns the carrier in a notch.");
        for (int place = 0; place < 24; place++) {
            BraidHorns x = new BraidHorns();
            x.carrier(place / 4, place % 4);
            for (int other = 0; other < 24; other++) {
                checks.due("at " + other, x.at(other / 4, other % 4), other == place ? 0 : NONE);
            }
        }
    }

    private static void aroundFirstOne() {
        checks.sentence("11: rank: 0 for the first one");
        BraidHorns x = new BraidHorns();
        checks.due("none", x.around(0), NO_SUCH);
        x.carrier(5, 3);
        checks.due("one", x.around(0), 0);
        x.carrier(0, 0);
        checks.due("two", x.around(0), 1);
        checks.due("the second one", x.around(1), 0);
    }

    private static void aroundNotSoMany() {
        checks.sentence("11: NO_SUCH if there are not so many");
        BraidHorns x = new BraidHorns();
        x.set(BraidHorns.PAIRS, 6);
        for (int carriers = 0; carriers <= 10; carriers++) {
            if (carriers > 0) {
                x.carrier(carriers - 1, 1);
                checks.due("the last of " + carriers, x.around(carriers - 1), carriers - 1);
            }
            checks.due("one more than " + carriers, x.around(carriers), NO_SUCH);
            checks.due("rank -1 of " + carriers, x.around(-1), NO_SUCH);
        }
        for (int rank : FAR_OUT) {
            checks.due("rank " + rank, x.around(rank), NO_SUCH);
        }
        x.takeOut(0);
        checks.due("ten no more", x.around(9), NO_SUCH);
        checks.due("the last of nine", x.around(8), 9);
    }

    private static void aroundByHornsAndNotches() {
        checks.sentence("11: around the track: by horns, of one horn by notches");
        BraidHorns x = new BraidHorns();
        int[][] places = {{5, 3}, {3, 1}, {3, 0}, {0, 3}, {3, 3}, {0, 0}, {5, 2}, {3, 2}, {0, 1}, {1, 3}};
        for (int[] place : places) {
            x.carrier(place[0], place[1]);
        }
        int[] due = {5, 8, 3, 9, 2, 1, 7, 4, 6, 0};
        for (int rank = 0; rank < due.length; rank++) {
            checks.due("rank " + rank, x.around(rank), due[rank]);
        }
    }

    private static void countOutOfRange() {
        checks.sentence("12: BAD_VALUE if what is out of range");
        for (Situations situation : Situations.values()) {
            BraidHorns x = situation.make();
            checks.due("count(-1)", x.count(-1), BAD_VALUE);
            checks.due("count(15)", x.count(15), BAD_VALUE);
            for (int what : FAR_OUT) {
                checks.due("count(" + what + ")", x.count(what), BAD_VALUE);
            }
            for (int what = 0; what < 15; what++) {
                checks.due("count(" + what + ") is a number", x.count(what) >= 0 ? 1 : 0, 1);
            }
        }
    }

    private static void countReason() {
        checks.sentence("12: 9 the reason for which the latest run() ended early");
        BraidHorns x = new BraidHorns();
        x.run(1);
        checks.due("no carrier", x.count(9), 1);
        x.carrier(2, 3);
        checks.due("until another run()", x.count(9), 1);
        x.snap(0);
        x.run(1);
        checks.due("a broken end", x.count(9), 2);
        x.tie(0);
        checks.due("until another run()", x.count(9), 2);
        x.run(61);
        checks.due("an empty bobbin", x.count(9), 3);
        x.refill(0);
        x.carrier(3, 3);
        x.run(1);
        checks.due("two that meet", x.count(9), 4);
        x.takeOut(1);
        checks.due("until another run()", x.count(9), 4);
        x.run(1);
        checks.due("one that does not end early", x.count(9), 0);
    }

    private static void countNoReason() {
        checks.sentence("12: 9 (0 if it did not, or there was none)");
        BraidHorns x = new BraidHorns();
        checks.due("no run()", x.count(9), 0);
        x.why();
        checks.due("why() is none", x.count(9), 0);
        x.carrier(0, 1);
        x.run(60);
        checks.due("all steps were done, though a next one would not be", x.count(9), 0);
        checks.due("reason of the next one", x.why(), 3);
        x.run(1);
        checks.due("ended early", x.count(9), 3);
        x.undo();
        checks.due("that is undone", x.count(9), 0);
    }

    private static void countReasonOfOrders() {
        checks.sentence("12: 9 the reason for which the latest run() ended early");
        BraidHorns x = new BraidHorns();
        Checks.write(x, "r1;c0.1");
        x.carryOut();
        checks.due("an order that ended early", x.count(9), 1);
        Checks.write(x, "b0;r1;k0");
        x.carryOut();
        checks.due("another one", x.count(9), 2);
        Checks.write(x, "r1;b0;r1;k0;r1");
        x.carryOut();
        checks.due("the latest one did not", x.count(9), 0);
    }

    private static void countWaste() {
        checks.sentence("12: 5 ells of waste so far");
        BraidHorns x = new BraidHorns();
        x.set(BraidHorns.FILL, 10);
        x.carrier(0, 1);
        x.carrier(2, 1);
        checks.due("none", x.count(5), 0);
        x.refill(0);
        checks.due("of a refill", x.count(5), 10);
        x.run(10);
        x.refill(0);
        checks.due("of an empty one", x.count(5), 10);
        x.takeOut(1);
        checks.due("of an empty one taken out", x.count(5), 10);
        x.takeOut(0);
        checks.due("of a full one taken out", x.count(5), 20);
    }

    private static void countBobbins() {
        checks.sentence("12: 6 ells that were put on bobbins so far, 7 ells on all bobbins, 8 that were spent");
        BraidHorns x = Situations.FULL.make();
        int[] counts = {x.count(5), x.count(6), x.count(7), x.count(8)};
        // Eleven carriers and a refill; the one that was taken out was full, ten spent 7 ells each.
        int[] due = {60 + 53, 12 * 60, 9 * 53 + 60, 70};
        for (int i = 0; i < due.length; i++) {
            checks.due("count(" + (5 + i) + ")", counts[i], due[i]);
        }
        checks.due("waste, on bobbins and spent are all that was put", due[0] + due[2] + due[3], due[1]);
    }

    private static void countPad() {
        checks.sentence("12: 13 the length of the pad");
        BraidHorns x = new BraidHorns();
        checks.due("empty", x.count(13), 0);
        for (int length = 1; length <= 81; length++) {
            x.put('r');
            checks.due("characters", x.count(13), Math.min(length, 80));
        }
        x.wipe();
        checks.due("empty again", x.count(13), 0);
    }

    private static void countChanges() {
        checks.sentence("12: 14 how many changes can be undone");
        BraidHorns x = new BraidHorns();
        for (int changes = 0; changes <= 8; changes++) {
            checks.due("changes", x.count(14), Math.min(changes, 6));
            x.run(1);
        }
        for (int left = 5; left >= 0; left--) {
            x.undo();
            checks.due("left", x.count(14), left);
        }
    }
}
