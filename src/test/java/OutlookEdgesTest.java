/** Promises 13 to 18: each sentence that names a boundary case has a test of its own. */
final class OutlookEdgesTest {
    private static final int BAD_VALUE = BraidHorns.BAD_VALUE;
    private static final int TOO_MANY = BraidHorns.TOO_MANY;
    private static final int NOT_POSSIBLE = BraidHorns.NOT_POSSIBLE;
    private static final int NONE = BraidHorns.NONE;

    private static final Checks checks = new Checks();

    public static void main(String[] args) {
        whyItWould();
        lastStepDoesNotMatter();
        meetingOutOfRange();
        meetingNone();
        meetingInTheNextStep();
        meetingFarthest();
        meetingWhateverEndsAndBobbins();
        meetingLowestContact();
        meetingAtTheLastContact();
        meetingNumbers();
        freeEmptyTrack();
        freeTakenPlaces();
        freeThoughTheyWouldMeet();
        freeWhateverTheirNumber();
        freeFullTrack();
        freeWhateverEndsAndBobbins();
        firstFreeFirst();
        firstFreeLast();
        firstFreeNone();
        periodNoCarrier();
        periodOne();
        periodWhicheverIsInWhich();
        periodMeeting();
        periodWhateverEndsAndBobbins();
        lastsNone();
        lastsOne();
        lastsMost();
        lastsMeetingOrBobbin();
        everyTwoPlaces();
        checks.end();
    }

    private static BraidHorns track(int pairs, int... places) {
        BraidHorns x = new BraidHorns();
        x.set(BraidHorns.PAIRS, pairs);
        for (int place : places) {
            checks.due("a carrier at place " + place, x.carrier(place / 4, place % 4) >= 0 ? 1 : 0, 1);
        }
        return x;
    }

    private static int upPlace(int horn) {
        return 4 * horn + (horn % 2 == 0 ? 3 : 1);
    }

    private static int downPlace(int horn) {
        return 4 * horn + (horn % 2 == 0 ? 1 : 3);
    }

    private static void whyItWould() {
        checks.sentence("13: Returns the reason, 1 to 4, or 0: it would.");
        for (Situations situation : Situations.values()) {
            BraidHorns x = situation.make();
            int[] due = {1, 2, 2, 4, 0, 0};
            checks.due(situation + "", x.why(), due[situation.ordinal()]);
        }
        BraidHorns x = track(3, 1);
        for (int step = 0; step < 60; step++) {
            checks.due("behind " + step + " steps", x.why(), 0);
            checks.due("run", x.run(1), 1);
        }
        checks.due("behind 60 steps", x.why(), 3);
    }

    private static void lastStepDoesNotMatter() {
        checks.sentence("what if; nothing changes (the bound of steps does not matter)");
        BraidHorns x = Situations.LAST_STEP.make();
        checks.due("run", x.run(1), NOT_POSSIBLE);
        checks.due("why", x.why(), 0);
        checks.due("period", x.period(), 12);
        checks.due("lasts", x.lasts(), 999 - 99);
        checks.due("meeting", x.meeting(0), NONE);
        x.takeOut(0);
        checks.due("why without carriers", x.why(), 1);
        checks.due("free", x.free(), 24);
        checks.due("firstFree", x.firstFree(), 0);
        x.carrier(0, 3);
        x.carrier(5, 3);
        checks.due("meeting of two", x.meeting(0), 5);
        checks.due("lasts of two", x.lasts(), 4);
        BraidHorns near = Situations.NEAR_THE_LAST_STEP.make();
        checks.due("lasts near the last step", near.lasts(), 998);
    }

    private static void meetingOutOfRange() {
        checks.sentence("14: BAD_VALUE if what is out of range");
        for (Situations situation : Situations.values()) {
            BraidHorns x = situation.make();
            for (int what : new int[] {-1, 4, 5, Integer.MIN_VALUE, Integer.MAX_VALUE, 1 << 30}) {
                checks.due(situation + ", meeting(" + what + ")", x.meeting(what), BAD_VALUE);
            }
        }
    }

    private static void none(String name, BraidHorns x) {
        for (int what = 0; what < 4; what++) {
            checks.due(name + ", meeting(" + what + ")", x.meeting(what), NONE);
        }
    }

    private static void meets(String name, BraidHorns x, int step, int contact, int first, int second) {
        int[] due = {step, contact, first, second};
        for (int what = 0; what < 4; what++) {
            checks.due(name + ", meeting(" + what + ")", x.meeting(what), due[what]);
        }
    }

    private static void meetingNone() {
        checks.sentence("14: NONE if they do not within 100 steps");
        for (int pairs = 2; pairs <= 6; pairs++) {
            none("nobody", track(pairs));
            for (int place = 0; place < 8 * pairs; place++) {
                none("one", track(pairs, place));
            }
            none("two that go up", track(pairs, upPlace(0), upPlace(1)));
            none("two that go down", track(pairs, downPlace(0), downPlace(1)));
            // The one at a contact is beside the contacts whenever the other one comes to one.
            none("two that go by", track(pairs, 0, upPlace(2)));
        }
        none("ten that go up", Situations.FULL.make());
    }

    private static void meetingInTheNextStep() {
        checks.sentence("14: 0 behind how many steps: the step in which they meet is one of them");
        for (int pairs = 2; pairs <= 6; pairs++) {
            for (int horn = 0; horn < 2 * pairs; horn++) {
                int next = (horn + 1) % (2 * pairs);
                meets("in the next step", track(pairs, upPlace(horn), downPlace(next)), 1, horn, 0, 1);
                // Behind a step from their contacts they are where they meet in the next one.
                int from = 4 * horn + 2;
                int other = 4 * next;
                meets("in the second step", track(pairs, from, other), 2, horn, 0, 1);
            }
        }
    }

    private static void meetingFarthest() {
        checks.sentence("14: Tells where two carriers would meet first");
        for (int pairs = 2; pairs <= 6; pairs++) {
            // All around, but for a contact: one goes up from it and one goes down from it, and they meet at the
            // other side. Each comes to a contact in the steps 1, 3, 5 and so on.
            BraidHorns x = track(pairs, upPlace(1), downPlace(0));
            int step = 2 * pairs - 1;
            meets("pairs " + pairs, x, step, pairs, 0, 1);
            checks.due("steps ahead of it", x.lasts(), step - 1);
            checks.due("run", x.run(99), step - 1);
            meets("then", x, 1, pairs, 0, 1);
        }
    }

    private static void meetingWhateverEndsAndBobbins() {
        checks.sentence("14: if steps were done whatever ends and bobbins do");
        BraidHorns x = new BraidHorns();
        x.set(BraidHorns.FILL, 1);
        x.carrier(0, 1);
        x.carrier(1, 1);
        x.run(1);
        checks.due("empty bobbins", x.why(), 3);
        meets("empty bobbins", x, 4, 3, 1, 0);
        x.snap(1);
        checks.due("a broken end", x.why(), 2);
        meets("a broken end", x, 4, 3, 1, 0);
    }

    private static void meetingLowestContact() {
        checks.sentence("14: 1 the contact, of several the lowest one");
        for (int pairs = 2; pairs <= 6; pairs++) {
            int horns = 2 * pairs;
            for (int high = horns - 1; high > 1; high--) {
                for (int low = high - 2; low >= 0; low--) {
                    if (low == 0 && high == horns - 1) {
                        continue;
                    }
                    int next = (high + 1) % horns;
                    BraidHorns x = track(pairs, upPlace(high), downPlace(next), upPlace(low), downPlace(low + 1));
                    meets("contacts " + low + " and " + high, x, 1, low, 2, 3);
                    x.takeOut(3);
                    meets("contact " + high, x, 1, high, 0, 1);
                }
            }
            BraidHorns both = track(pairs, upPlace(horns - 1), downPlace(0), upPlace(0), downPlace(1));
            meets("the last contact and 0", both, 1, 0, 2, 3);
        }
    }

    private static void meetingAtTheLastContact() {
        checks.sentence("14: 2 the carrier that comes there on the horn of that number, 3 the one on the next horn");
        for (int pairs = 2; pairs <= 6; pairs++) {
            int last = 2 * pairs - 1;
            meets("the last horn first", track(pairs, upPlace(last), downPlace(0)), 1, last, 0, 1);
            meets("the horn 0 first", track(pairs, downPlace(0), upPlace(last)), 1, last, 1, 0);
        }
    }

    private static void meetingNumbers() {
        checks.sentence("14: 2 the carrier that comes there on the horn of that number, 3 the one on the next horn");
        BraidHorns x = track(6);
        Situations.upward(x, 10);
        x.takeOut(9);
        x.takeOut(8);
        checks.due("down to the contact 8", x.carrier(9, 3), 8);
        checks.due("up to the contact 8", x.carrier(8, 3), 9);
        meets("with the highest number", x, 1, 8, 9, 8);
    }

    private static void freeEmptyTrack() {
        checks.sentence("15: how many places there are at which one more carrier could be put");
        for (int pairs = 2; pairs <= 6; pairs++) {
            BraidHorns x = track(pairs);
            checks.due("pairs " + pairs, x.free(), 8 * pairs);
            checks.due("first of them", x.firstFree(), 0);
        }
    }

    private static void freeTakenPlaces() {
        checks.sentence("15: places at which one more carrier could be put");
        for (int pairs = 2; pairs <= 6; pairs++) {
            int places = 8 * pairs;
            for (int place = 0; place < places; place++) {
                BraidHorns x = track(pairs, place);
                int[] tried = freeByTrying(x);
                checks.due("beside place " + place, x.free(), tried[0]);
                checks.due("first beside place " + place, x.firstFree(), tried[1]);
            }
        }
    }

    private static void freeThoughTheyWouldMeet() {
        checks.sentence("15: and no two carriers would meet within 100 steps then");
        for (int pairs = 2; pairs <= 6; pairs++) {
            BraidHorns soon = track(pairs, upPlace(0), downPlace(1));
            checks.due("in the next step", soon.free(), 0);
            checks.due("first, in the next step", soon.firstFree(), NONE);
            BraidHorns late = track(pairs, upPlace(1), downPlace(0));
            checks.due("in the farthest step", late.free(), 0);
            checks.due("first, in the farthest step", late.firstFree(), NONE);
        }
    }

    private static void freeWhateverTheirNumber() {
        checks.sentence("15: (whatever their number is)");
        BraidHorns x = track(6);
        Situations.upward(x, 10);
        int[] due = {x.free(), x.firstFree()};
        checks.due("one more is one too many", x.carrier(11, 1), TOO_MANY);
        checks.due("there are places all the same", due[0], 26);
        checks.due("the first one", due[1], 0);
        x.takeOut(9);
        // Its place, and those from which one goes down and would have met that one alone.
        checks.due("with nine there are more", x.free() > due[0] ? 1 : 0, 1);
    }

    private static void freeFullTrack() {
        checks.sentence("15: how many places there are at which one more carrier could be put");
        BraidHorns x = allUp();
        checks.due("a carrier at each contact", x.free(), 0);
        checks.due("the first one", x.firstFree(), NONE);
        x.takeOut(5);
        checks.due("but one", x.free(), 1);
        checks.due("its place", x.firstFree(), 4 * 2 + 3);
    }

    /** The 8 places of two pairs from which one goes up. */
    private static BraidHorns allUp() {
        return track(2, 2, 3, 6, 5, 10, 11, 14, 13);
    }

    private static void freeWhateverEndsAndBobbins() {
        checks.sentence("15: no two carriers would meet within 100 steps then");
        BraidHorns x = new BraidHorns();
        x.set(BraidHorns.FILL, 12);
        x.carrier(0, 3);
        int free = x.free();
        int first = x.firstFree();
        x.run(12);
        checks.due("an empty bobbin", x.why(), 3);
        checks.due("free", x.free(), free);
        checks.due("firstFree", x.firstFree(), first);
        x.snap(0);
        checks.due("free with a broken end", x.free(), free);
        checks.due("firstFree with a broken end", x.firstFree(), first);
    }

    private static void firstFreeFirst() {
        checks.sentence("16: the first of these places, by horns, of one horn by notches");
        for (int pairs = 2; pairs <= 6; pairs++) {
            checks.due("of all", track(pairs).firstFree(), 0);
            checks.due("0 is taken", track(pairs, 0).firstFree(), 1);
            checks.due("its contact is taken", track(pairs, 6).firstFree(), 1);
            // From 0 one comes to the last contact in the second step, as does the one on the last horn; from 1 one
            // is beside the contacts then.
            checks.due("at 0 they would meet", track(pairs, 8 * pairs - 2, 0).meeting(0), 2);
            checks.due("1 is the first", track(pairs, 8 * pairs - 2).firstFree(), 1);
        }
    }

    private static void firstFreeLast() {
        checks.sentence("16: the first of these places, by horns, of one horn by notches");
        BraidHorns x = track(2, 2, 3, 6, 5, 10, 11, 14);
        checks.due("the place left of those that go up", x.firstFree(), 13);
        BraidHorns y = track(2, 7, 2, 9, 14, 1, 10, 6);
        checks.due("good places, by trying", freeByTrying(y)[0], 1);
        checks.due("the first one, by trying", freeByTrying(y)[1], 15);
        checks.due("the last place of all", y.firstFree(), 15);
        checks.due("it is the only one", y.free(), 1);
    }

    private static void firstFreeNone() {
        checks.sentence("16: NONE if there is none");
        checks.due("a carrier at each contact", allUp().firstFree(), NONE);
        checks.due("two that meet", Situations.MEETING.make().firstFree(), NONE);
        BraidHorns x = track(2, 3, 4, 9, 0, 1, 12, 8, 11);
        checks.due("eight that go by each other", x.meeting(0), NONE);
        checks.due("no ninth one", x.firstFree(), NONE);
        checks.due("none at all", x.free(), 0);
        // From each place on, carriers are put one by one until no place is left, or ten are there.
        for (int start = 0; start < 16; start++) {
            BraidHorns y = track(2, start);
            int place = y.firstFree();
            for (int i = 1; i < 10 && place != NONE; i++) {
                int[] tried = freeByTrying(y);
                checks.due("free with " + i + " from " + start, y.free(), tried[0]);
                checks.due("firstFree with " + i + " from " + start, place, tried[1]);
                y.carrier(place / 4, place % 4);
                place = y.firstFree();
            }
            checks.due("in the end from " + start, place, freeByTrying(y)[1]);
            checks.due("none is left from " + start, place, NONE);
        }
    }

    /** How many places are good, and the first one or NONE, on a track of fewer than ten carriers. */
    private static int[] freeByTrying(BraidHorns x) {
        int[] found = {0, NONE};
        for (int place = 4 * x.count(0) - 1; place >= 0; place--) {
            if (x.carrier(place / 4, place % 4) >= 0) {
                if (x.meeting(0) == NONE) {
                    found[0]++;
                    found[1] = place;
                }
                x.undo();
            }
        }
        return found;
    }

    private static void periodNoCarrier() {
        checks.sentence("17: NOT_POSSIBLE if there is no carrier");
        BraidHorns x = new BraidHorns();
        checks.due("a new track", x.period(), NOT_POSSIBLE);
        x.carrier(0, 1);
        checks.due("one", x.period(), 12);
        x.takeOut(0);
        checks.due("none again", x.period(), NOT_POSSIBLE);
    }

    private static void periodOne() {
        checks.sentence("17: behind how many steps, 1 or more");
        BraidHorns x = allUp();
        checks.due("each place has the next one's carrier", x.period(), 1);
        checks.due("run", x.run(1), 1);
        checks.due("the places are taken again", x.period(), 1);
        x.takeOut(0);
        checks.due("seven of the eight", x.period(), 8);
    }

    private static void periodWhicheverIsInWhich() {
        checks.sentence("17: the carriers are in the same notches again as now, whichever is in which");
        for (int pairs = 2; pairs <= 6; pairs++) {
            for (int place = 0; place < 8 * pairs; place++) {
                checks.due("one at " + place, track(pairs, place).period(), 4 * pairs);
            }
            BraidHorns x = track(pairs, 2, 4 * pairs + 2);
            checks.due("two, half the track apart", x.period(), 2 * pairs);
            x.run(2 * pairs);
            checks.due("each is where the other one was", x.at(0, 2), 1);
        }
    }

    private static void periodMeeting() {
        checks.sentence("17: NONE if two would meet ahead of that");
        for (int pairs = 2; pairs <= 6; pairs++) {
            for (int horn = 0; horn < 2 * pairs; horn++) {
                int next = (horn + 1) % (2 * pairs);
                checks.due("in the next step", track(pairs, upPlace(horn), downPlace(next)).period(), NONE);
                checks.due("in the farthest step", track(pairs, upPlace(next), downPlace(horn)).period(), NONE);
            }
        }
    }

    private static void periodWhateverEndsAndBobbins() {
        checks.sentence("17: whatever ends and bobbins do");
        BraidHorns x = new BraidHorns();
        x.set(BraidHorns.FILL, 1);
        x.carrier(0, 1);
        checks.due("a bobbin for one step", x.period(), 12);
        x.run(1);
        checks.due("an empty bobbin", x.period(), 12);
        x.snap(0);
        checks.due("a broken end", x.period(), 12);
    }

    private static void lastsNone() {
        checks.sentence("18: how many steps would be done yet, until one is not done");
        checks.due("no carrier", track(3).lasts(), 0);
        BraidHorns x = track(3, 1);
        x.snap(0);
        checks.due("a broken end", x.lasts(), 0);
        x.tie(0);
        checks.due("tied", x.lasts(), 60);
        x.run(60);
        checks.due("an empty bobbin", x.lasts(), 0);
        checks.due("two that meet", Situations.MEETING.make().lasts(), 0);
    }

    private static void lastsOne() {
        checks.sentence("18: how many steps would be done yet, until one is not done");
        BraidHorns x = new BraidHorns();
        x.set(BraidHorns.FILL, 1);
        x.carrier(0, 1);
        checks.due("an ell", x.lasts(), 1);
        BraidHorns y = track(3, 2, 4);
        checks.due("they meet in the second step", y.lasts(), 1);
        checks.due("run", y.run(99), 1);
        checks.due("then", y.lasts(), 0);
    }

    private static void lastsMost() {
        checks.sentence("18: how many steps would be done yet, until one is not done");
        BraidHorns x = new BraidHorns();
        x.set(BraidHorns.PAIRS, 6);
        x.set(BraidHorns.FILL, 999);
        Situations.upward(x, 10);
        for (int left = 999; left > 0; left -= 37) {
            checks.due("ells", x.lasts(), left);
            x.run(37);
        }
        checks.due("none", x.lasts(), 0);
        x.refill(3);
        checks.due("the others are empty", x.lasts(), 0);
    }

    private static void lastsMeetingOrBobbin() {
        checks.sentence("18: until one is not done, if nothing else is done");
        for (int fill = 1; fill < 12; fill++) {
            BraidHorns x = new BraidHorns();
            x.carrier(0, 3);
            x.set(BraidHorns.FILL, fill);
            x.carrier(5, 3);
            // They meet in the step 5, so that 4 are done if the bobbins last.
            int due = Math.min(fill, 4);
            checks.due("ells " + fill, x.lasts(), due);
            checks.due("run", x.run(99), due);
            checks.due("reason", x.count(9), fill <= 4 ? 3 : 4);
            checks.due("then", x.lasts(), 0);
        }
    }

    /** Every two places of all tracks, against steps that are done plainly. */
    private static void everyTwoPlaces() {
        checks.sentence("13 to 18");
        for (int pairs = 2; pairs <= 6; pairs++) {
            for (int place = 0; place < 8 * pairs; place++) {
                for (int other = place + 1; other < 8 * pairs; other++) {
                    twoPlaces(pairs, place, other);
                }
            }
        }
    }

    private static void twoPlaces(int pairs, int place, int other) {
        BraidHorns x = new BraidHorns();
        PlainTrack track = new PlainTrack();
        x.set(BraidHorns.PAIRS, pairs);
        track.change('s', 0, pairs);
        String name = pairs + " pairs, places " + place + " and " + other;
        x.carrier(place / 4, place % 4);
        track.change('c', place / 4, place % 4);
        checks.due(name, x.carrier(other / 4, other % 4), track.change('c', other / 4, other % 4));
        for (int what = 0; what < 4; what++) {
            checks.due(name + ", meeting(" + what + ")", x.meeting(what), track.meeting(what));
        }
        checks.due(name + ", why()", x.why(), track.why());
        checks.due(name + ", period()", x.period(), track.period());
        checks.due(name + ", lasts()", x.lasts(), track.lasts());
        if (pairs < 4) {
            int[] free = track.freePlaces();
            checks.due(name + ", free()", x.free(), free[0]);
            checks.due(name + ", firstFree()", x.firstFree(), free[1]);
        }
    }
}
