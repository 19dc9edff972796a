/** The calls that README.md shows, with the answers that it tells. */
final class ReadmeTest {
    private static final Checks checks = new Checks();

    public static void main(String[] args) {
        BraidHorns braider = new BraidHorns();
        useOfTheTrack(braider);
        useOfTexts(braider);
        checks.end();
    }

    private static void useOfTheTrack(BraidHorns braider) {
        checks.sentence("README.md, a track");
        int carrier = braider.carrier(0, 3);
        checks.due("carrier(0, 3)", carrier, 0);
        checks.due("run(10)", braider.run(10), 10);
        checks.due("of(carrier, 2)", braider.of(carrier, 2), 50);
        checks.due("lasts()", braider.lasts(), 50);
        checks.due("carrier(2, 9)", braider.carrier(2, 9), BraidHorns.NO_SUCH);
        checks.due("undo()", braider.undo(), 1);
        checks.due("the ten steps are undone", braider.count(2), 0);
    }

    private static void useOfTexts(BraidHorns braider) {
        checks.sentence("README.md, a text");
        checks.due("\"r5;b0\" as a number", 0x72_35_3B_62_30L == Checks.word("r5;b0") ? 1 : 0, 1);
        checks.due("put(..)", braider.put(0x72_35_3B_62_30L), 5);
        checks.due("fault()", braider.fault(), BraidHorns.NONE);
        checks.due("carryOut()", braider.carryOut(), 2);
        checks.due("five steps", braider.count(2), 5);
        checks.due("run(1)", braider.run(1), 0);
        checks.due("count(9)", braider.count(9), 2);
    }
}
