/** Promises 13 to 18: what if; ModelTest compares them with steps that are done plainly. */
final class OutlookTest {
    private static final Checks checks = new Checks();

    public static void main(String[] args) {
        whyNot();
        whereTheyMeet();
        meetingAroundTheEnd();
        severalContacts();
        freePlaces();
        freeWithTen();
        periods();
        howLong();
        checks.end();
    }

    private static void whyNot() {
        BraidHorns x = new BraidHorns();
        checks.due("13: none", x.why(), 1);
        x.set(BraidHorns.FILL, 1);
        x.carrier(0, 3);
        checks.due("13: it would", x.why(), 0);
        x.carrier(1, 3);
        checks.due("13: meeting", x.why(), 4);
        x.takeOut(1);
        x.run(1);
        x.carrier(1, 1);
        checks.due("13: empty", x.why(), 3);
        x.snap(1);
        checks.due("13: broken", x.why(), 2);
        checks.due("13: why() is no run", x.count(9), 0);
        checks.due("13: why() is no change", x.count(14), 6);
    }

    private static void whereTheyMeet() {
        BraidHorns x = new BraidHorns();
        for (int what = 0; what < 4; what++) {
            checks.due("14: nobody, " + what, x.meeting(what), BraidHorns.NONE);
        }
        checks.due("14: meeting(-1)", x.meeting(-1), BraidHorns.BAD_VALUE);
        checks.due("14: meeting(4)", x.meeting(4), BraidHorns.BAD_VALUE);
        checks.due("14: meeting(most)", x.meeting(Integer.MAX_VALUE), BraidHorns.BAD_VALUE);
        x.set(BraidHorns.FILL, 1);
        x.carrier(5, 1);
        x.carrier(4, 1);
        x.run(1);
        x.snap(1);
        // 0 stands at (0, 2) and goes up, 1 at (3, 0) and goes back: 0 comes to (1, 0) as 1 comes to (2, 2).
        due(x, 4, 1, 0, 1);
        checks.due("14: meeting(4)", x.meeting(4), BraidHorns.BAD_VALUE);
        checks.due("14: nothing changes", x.count(2), 1);
        checks.due("14: no change", x.count(14), 5);
    }

    private static void due(BraidHorns x, int step, int contact, int first, int second) {
        int[] due = {step, contact, first, second};
        for (int what = 0; what < 4; what++) {
            checks.due("14: meeting(" + what + ")", x.meeting(what), due[what]);
        }
    }

    private static void meetingAroundTheEnd() {
        BraidHorns x = new BraidHorns();
        x.carrier(0, 1);
        x.carrier(5, 1);
        due(x, 1, 5, 1, 0);
    }

    private static void severalContacts() {
        BraidHorns x = new BraidHorns();
        x.set(BraidHorns.PAIRS, 6);
        x.carrier(9, 3);
        x.carrier(8, 3);
        x.carrier(3, 3);
        x.carrier(2, 3);
        x.carrier(6, 3);
        x.carrier(7, 3);
        due(x, 1, 2, 3, 2);
        x.takeOut(2);
        x.takeOut(3);
        due(x, 1, 6, 4, 5);
    }

    private static void freePlaces() {
        BraidHorns x = new BraidHorns();
        checks.due("15: none there", x.free(), 24);
        checks.due("16: none there", x.firstFree(), 0);
        x.set(BraidHorns.PAIRS, 2);
        checks.due("15: two pairs", x.free(), 16);
        x.set(BraidHorns.PAIRS, 6);
        checks.due("15: six pairs", x.free(), 48);
        checks.due("15: no change", x.count(14), 2);
        x.carrier(0, 0);
        // The 23 others that go the same way, and of those that go against it the 12 beside contacts and
        // the 6 at contacts an odd number of contacts away: it goes by them inside or outside.
        checks.due("15: beside one", x.free(), 41);
        checks.due("16: beside one", x.firstFree(), 1);
        checks.due("15: beside one, by trying", x.free(), freeByTrying(x));
        checks.due("16: beside one, by trying", x.firstFree(), firstByTrying(x));
        x.undo();
        checks.due("15: none there again", x.free(), 48);
        BraidHorns y = new BraidHorns();
        y.carrier(0, 3);
        y.carrier(1, 3);
        checks.due("15: two that meet", y.free(), 0);
        checks.due("16: two that meet", y.firstFree(), BraidHorns.NONE);
    }

    private static int freeByTrying(BraidHorns x) {
        int places = 0;
        for (int place = 0; place < 4 * x.count(0); place++) {
            places += triedPlace(x, place) ? 1 : 0;
        }
        return places;
    }

    private static int firstByTrying(BraidHorns x) {
        for (int place = 0; place < 4 * x.count(0); place++) {
            if (triedPlace(x, place)) {
                return place;
            }
        }
        return BraidHorns.NONE;
    }

    private static boolean triedPlace(BraidHorns x, int place) {
        if (x.carrier(place / 4, place % 4) < 0) {
            return false;
        }
        boolean good = x.meeting(0) == BraidHorns.NONE;
        x.undo();
        return good;
    }

    private static void freeWithTen() {
        BraidHorns x = new BraidHorns();
        x.set(BraidHorns.PAIRS, 6);
        // All at outside and inside notches that go up: none of them ever meets another one.
        for (int horn = 0; horn < 10; horn++) {
            x.carrier(horn, horn % 2 == 0 ? 3 : 1);
        }
        checks.due("15: ten that go on", x.meeting(0), BraidHorns.NONE);
        // The 14 other places from which one goes up too, and the 12 at contacts from which one goes against
        // the ten but is beside the contacts whenever they are at them.
        checks.due("15: an eleventh", x.free(), 26);
        checks.due("16: an eleventh", x.firstFree(), 0);
        checks.due("15: though there are ten", x.carrier(10, 3), BraidHorns.TOO_MANY);
    }

    private static void periods() {
        BraidHorns x = new BraidHorns();
        checks.due("17: nobody", x.period(), BraidHorns.NOT_POSSIBLE);
        x.set(BraidHorns.PAIRS, 6);
        x.set(BraidHorns.FILL, 1);
        x.carrier(0, 3);
        checks.due("17: one", x.period(), 24);
        x.carrier(6, 3);
        checks.due("17: two, half the track apart", x.period(), 12);
        x.carrier(3, 1);
        checks.due("17: three", x.period(), 24);
        x.carrier(9, 1);
        checks.due("17: four", x.period(), 6);
        x.run(1);
        x.snap(2);
        checks.due("17: bobbins and ends do not matter", x.period(), 6);
        x.undo();
        x.undo();
        x.carrier(5, 3);
        checks.due("17: two meet ahead of that", x.period(), BraidHorns.NONE);
        checks.due("17: no change", x.count(14), 5);
    }

    private static void howLong() {
        BraidHorns x = new BraidHorns();
        checks.due("18: nobody", x.lasts(), 0);
        x.set(BraidHorns.FILL, 999);
        x.carrier(0, 3);
        checks.due("18: one", x.lasts(), 999);
        x.set(BraidHorns.FILL, 5);
        x.carrier(2, 3);
        checks.due("18: the emptiest bobbin", x.lasts(), 5);
        x.snap(0);
        checks.due("18: a broken end", x.lasts(), 0);
        x.undo();
        x.undo();
        x.carrier(5, 3);
        checks.due("18: they meet in step 5", x.meeting(0), 5);
        checks.due("18: the steps before it", x.lasts(), 4);
        x.set(BraidHorns.FILL, 3);
        x.refill(1);
        checks.due("18: the bobbin is empty before it", x.lasts(), 3);
        checks.due("18: lasts() is no change", x.count(14), 6);
        checks.due("18: run(99) does as many", x.run(99), 3);
        checks.due("18: none then", x.lasts(), 0);
    }
}
