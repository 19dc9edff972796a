/** Promises 9 to 12: what there is. */
final class LooksTest {
    private static final Checks checks = new Checks();

    public static void main(String[] args) {
        ofCarriers();
        ways();
        atPlaces();
        aroundTheTrack();
        counting();
        checks.end();
    }

    private static void ofCarriers() {
        BraidHorns x = new BraidHorns();
        checks.due("9: none there goes first", x.of(0, 8), BraidHorns.NO_SUCH);
        x.carrier(4, 0);
        x.carrier(3, 3);
        checks.due("9: of(-1, 0)", x.of(-1, 0), BraidHorns.NO_SUCH);
        checks.due("9: of(10, 0)", x.of(10, 0), BraidHorns.NO_SUCH);
        checks.due("9: of(far out, far out)", x.of(Integer.MAX_VALUE, Integer.MAX_VALUE), BraidHorns.NO_SUCH);
        checks.due("9: of(0, -1)", x.of(0, -1), BraidHorns.BAD_VALUE);
        checks.due("9: of(0, 8)", x.of(0, 8), BraidHorns.BAD_VALUE);
        checks.due("9: of(0, most)", x.of(0, Integer.MAX_VALUE), BraidHorns.BAD_VALUE);
        checks.due("9: of(0, least)", x.of(0, Integer.MIN_VALUE), BraidHorns.BAD_VALUE);
        int[][] due = {{4, 0, 60, 0, 0, 0, 0, 0}, {3, 3, 60, 0, 0, 0, 0, 0}};
        all(x, due);
        x.run(1);
        all(x, new int[][] {{4, 1, 59, 0, 1, 0, 1, 0}, {2, 0, 59, 0, 0, 0, 1, 0}});
        x.run(2);
        x.snap(1);
        all(x, new int[][] {{3, 3, 57, 0, 1, 1, 3, 0}, {1, 0, 57, 1, 1, 0, 3, 0}});
        x.tie(1);
        x.refill(0);
        all(x, new int[][] {{3, 3, 60, 0, 1, 1, 3, 0}, {1, 0, 57, 0, 1, 0, 3, 0}});
    }

    private static void all(BraidHorns x, int[][] due) {
        for (int carrier = 0; carrier < due.length; carrier++) {
            for (int what = 0; what < 8; what++) {
                checks.due("9: of(" + carrier + ", " + what + ")", x.of(carrier, what), due[carrier][what]);
            }
        }
    }

    private static void ways() {
        int[][] up = {{0, 0, 1, 1}, {0, 1, 1, 0}};
        for (int horn = 0; horn < 6; horn++) {
            for (int notch = 0; notch < 4; notch++) {
                BraidHorns x = new BraidHorns();
                x.carrier(horn, notch);
                int way = up[horn % 2][notch];
                for (int step = 0; step < 13; step++) {
                    checks.due("9: way from " + horn + ", " + notch, x.of(0, 7), way);
                    x.run(1);
                }
            }
        }
    }

    private static void atPlaces() {
        BraidHorns x = new BraidHorns();
        x.carrier(0, 3);
        x.carrier(5, 1);
        checks.due("10: at(0, 3)", x.at(0, 3), 0);
        checks.due("10: at(5, 1)", x.at(5, 1), 1);
        checks.due("10: at(0, 0)", x.at(0, 0), BraidHorns.NONE);
        checks.due("10: at(-1, 0)", x.at(-1, 0), BraidHorns.NO_SUCH);
        checks.due("10: at(6, 0)", x.at(6, 0), BraidHorns.NO_SUCH);
        checks.due("10: at(0, -1)", x.at(0, -1), BraidHorns.NO_SUCH);
        checks.due("10: at(0, 4)", x.at(0, 4), BraidHorns.NO_SUCH);
        checks.due("10: at(far out)", x.at(1 << 30, 1 << 30), BraidHorns.NO_SUCH);
        x.run(1);
        checks.due("10: at(0, 0) behind a step", x.at(0, 0), BraidHorns.NONE);
        checks.due("10: at(1, 2) behind a step", x.at(1, 2), 0);
        checks.due("10: at(0, 2) behind a step", x.at(0, 2), 1);
        x.takeOut(0);
        checks.due("10: at(1, 2) taken out", x.at(1, 2), BraidHorns.NONE);
        x.takeOut(1);
        x.set(BraidHorns.PAIRS, 2);
        checks.due("10: at(4, 0) of two pairs", x.at(4, 0), BraidHorns.NO_SUCH);
        x.set(BraidHorns.PAIRS, 6);
        checks.due("10: at(11, 3) of six pairs", x.at(11, 3), BraidHorns.NONE);
    }

    private static void aroundTheTrack() {
        BraidHorns x = new BraidHorns();
        x.carrier(5, 3);
        x.carrier(2, 3);
        x.carrier(2, 0);
        x.carrier(0, 1);
        x.carrier(2, 1);
        int[] due = {3, 2, 4, 1, 0};
        for (int rank = 0; rank < due.length; rank++) {
            checks.due("11: around(" + rank + ")", x.around(rank), due[rank]);
        }
        checks.due("11: around(5)", x.around(5), BraidHorns.NO_SUCH);
        checks.due("11: around(-1)", x.around(-1), BraidHorns.NO_SUCH);
        checks.due("11: around(most)", x.around(Integer.MAX_VALUE), BraidHorns.NO_SUCH);
        checks.due("11: around(least)", x.around(Integer.MIN_VALUE), BraidHorns.NO_SUCH);
        x.takeOut(2);
        checks.due("11: around(1)", x.around(1), 4);
        checks.due("11: around(4)", x.around(4), BraidHorns.NO_SUCH);
        x.carrier(0, 0);
        checks.due("11: the first place of all", x.around(0), 2);
        x.takeOut(0);
        x.carrier(5, 3);
        checks.due("11: the last place of all", x.around(4), 0);
    }

    private static void counting() {
        BraidHorns x = new BraidHorns();
        x.set(BraidHorns.PAIRS, 5);
        x.set(BraidHorns.PULL, 3);
        x.set(BraidHorns.FILL, 20);
        x.carrier(0, 1);
        x.carrier(2, 1);
        x.carrier(4, 1);
        x.takeOut(1);
        x.run(15);
        x.refill(2);
        x.snap(0);
        x.tie(0);
        x.run(9);
        Checks.write(x, "hello");
        int[] due = {10, 5, 20, 60, 1, 25, 80, 15, 40, 3, 5, 3, 20, 5, 6};
        for (int what = 0; what < due.length; what++) {
            checks.due("12: count(" + what + ")", x.count(what), due[what]);
        }
        checks.due("12: count(-1)", x.count(-1), BraidHorns.BAD_VALUE);
        checks.due("12: count(15)", x.count(15), BraidHorns.BAD_VALUE);
        checks.due("12: count(most)", x.count(Integer.MAX_VALUE), BraidHorns.BAD_VALUE);
        checks.due("12: count(least)", x.count(Integer.MIN_VALUE), BraidHorns.BAD_VALUE);
    }
}
