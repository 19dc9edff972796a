/** The sentences under "Terms", but for the texts: each that names a boundary case has a test of its own. */
final class TermsEdgesTest {
    private static final int NO_SUCH = BraidHorns.NO_SUCH;
    private static final int BAD_VALUE = BraidHorns.BAD_VALUE;
    private static final int TOO_MANY = BraidHorns.TOO_MANY;
    private static final int NOT_POSSIBLE = BraidHorns.NOT_POSSIBLE;
    private static final int NONE = BraidHorns.NONE;

    private static final Checks checks = new Checks();

    public static void main(String[] args) {
        firstErrorInOrder();
        noneBehindErrors();
        numberedFromZero();
        masks();
        range(BraidHorns.PAIRS, 2, 6, 3);
        range(BraidHorns.PULL, 1, 9, 2);
        range(BraidHorns.FILL, 1, 999, 60);
        for (int pairs = 2; pairs <= 6; pairs++) {
            horns(pairs);
            circle(pairs);
            notches(pairs);
            contacts(pairs);
            oneAtAContact(pairs);
            turning(pairs);
            passing(pairs);
            sides(pairs);
            meetingBehindTheTurning(pairs);
            nearlyMeeting(pairs);
        }
        tenCarriers();
        numbersInOrder();
        lowestFreeNumber();
        asItIsPut();
        noCarrier();
        brokenEnd();
        emptyBobbin();
        firstReason();
        spending();
        growing();
        notByBeingPut();
        checks.end();
    }

    private static BraidHorns withPairs(int pairs) {
        BraidHorns x = new BraidHorns();
        x.set(BraidHorns.PAIRS, pairs);
        return x;
    }

    private static void firstErrorInOrder() {
        checks.sentence("in the order in which they are checked, and the first one that applies is returned");
        BraidHorns full = Situations.FULL.make();
        int horn = full.of(0, 0);
        int notch = full.of(0, 1);
        checks.due("set: its value, and carriers", full.set(BraidHorns.PAIRS, 7), BAD_VALUE);
        checks.due("set: no setting, and carriers", full.set(3, 3), BAD_VALUE);
        checks.due("carrier: no horn, and ten", full.carrier(12, 1), NO_SUCH);
        checks.due("carrier: no notch, and ten", full.carrier(11, 4), NO_SUCH);
        checks.due("carrier: taken, and ten", full.carrier(horn, notch), NOT_POSSIBLE);
        checks.due("of: no carrier, and no what", full.of(10, 8), NO_SUCH);
        checks.due("put: a full pad, and no character", full.put(0), BAD_VALUE);
        checks.due("put: a full pad, and a bad code", full.put(Checks.word("r1 r2")), BAD_VALUE);
        checks.due("put: a full pad, and a bit above", full.put(1L << 16 | '1'), BAD_VALUE);
        BraidHorns last = Situations.LAST_STEP.make();
        checks.due("run: 100, and 9999 are done", last.run(100), BAD_VALUE);
        checks.due("run: 0, and 9999 are done", last.run(0), BAD_VALUE);
        checks.due("run: 20000, and 9999 are done", last.run(20000), BAD_VALUE);
        BraidHorns none = new BraidHorns();
        checks.due("of: no carrier at all, and no what", none.of(0, -1), NO_SUCH);
        checks.due("restore: no slot, and nothing saved", none.restore(2), BAD_VALUE);
        checks.due("restore: no slot below, and nothing saved", none.restore(-1), BAD_VALUE);
    }

    private static void noneBehindErrors() {
        checks.sentence("NONE (-6) is not an error; it is returned only if no error applies");
        BraidHorns x = new BraidHorns();
        checks.due("at(6, 0)", x.at(6, 0), NO_SUCH);
        checks.due("at(5, 3)", x.at(5, 3), NONE);
        checks.due("meeting(4)", x.meeting(4), BAD_VALUE);
        checks.due("meeting(3)", x.meeting(3), NONE);
        checks.due("period()", x.period(), NOT_POSSIBLE);
        BraidHorns y = Situations.MEETING.make();
        checks.due("period()", y.period(), NONE);
    }

    private static void numberedFromZero() {
        checks.sentence("Everything is numbered from 0.");
        BraidHorns x = new BraidHorns();
        checks.due("setting 0", x.set(0, 3), 3);
        checks.due("horn 0, notch 0; carrier", x.carrier(0, 0), 0);
        checks.due("rank 0", x.around(0), 0);
        checks.due("slot 0", x.save(0), 1);
        checks.due("place 0 is taken", x.firstFree(), 1);
        x.takeOut(0);
        checks.due("place 0 is free", x.firstFree(), 0);
        x.carrier(0, 3);
        x.carrier(1, 3);
        checks.due("contact 0", x.meeting(1), 0);
    }

    private static void masks() {
        checks.sentence("Sets of carriers are bit masks.");
        BraidHorns x = withPairs(6);
        int due = 0;
        checks.due("none", x.count(1), due);
        for (int i = 0; i < 10; i++) {
            x.carrier(i, 1);
            due |= 1 << i;
            checks.due("with " + i, x.count(1), due);
        }
        for (int i : new int[] {0, 9, 5}) {
            x.takeOut(i);
            due &= ~(1 << i);
            checks.due("without " + i, x.count(1), due);
        }
    }

    private static void range(int setting, int low, int high, int first) {
        checks.sentence("(In parentheses: range; first value.) setting " + setting);
        BraidHorns x = new BraidHorns();
        checks.due("first value", x.count(10 + setting), first);
        checks.due("just below", x.set(setting, low - 1), BAD_VALUE);
        checks.due("just above", x.set(setting, high + 1), BAD_VALUE);
        checks.due("the lowest", x.set(setting, low), first);
        checks.due("it is set", x.count(10 + setting), low);
        checks.due("the highest", x.set(setting, high), low);
        checks.due("it is set", x.count(10 + setting), high);
        checks.due("just below the lowest", x.set(setting, low - 1), BAD_VALUE);
        checks.due("just above the highest", x.set(setting, high + 1), BAD_VALUE);
        checks.due("it stays", x.count(10 + setting), high);
        for (int value = low; value <= high; value++) {
            x.set(setting, value);
            checks.due("value " + value, x.count(10 + setting), value);
        }
        for (int other = 0; other < 3; other++) {
            int[] firsts = {3, 2, 60};
            if (other != setting) {
                checks.due("another setting", x.count(10 + other), firsts[other]);
            }
        }
    }

    private static void horns(int pairs) {
        checks.sentence("There are 2 * PAIRS horns");
        BraidHorns x = withPairs(pairs);
        checks.due("count(0)", x.count(0), 2 * pairs);
        checks.due("at() of the last one", x.at(2 * pairs - 1, 0), NONE);
        checks.due("at() behind it", x.at(2 * pairs, 0), NO_SUCH);
        checks.due("carrier() behind the last one", x.carrier(2 * pairs, 1), NO_SUCH);
        checks.due("carrier() at the last one", x.carrier(2 * pairs - 1, 1), 0);
        checks.due("carrier() at horn -1", x.carrier(-1, 1), NO_SUCH);
        checks.due("carrier() at horn 0", x.carrier(0, 1), 1);
    }

    private static void circle(int pairs) {
        checks.sentence("behind the last one comes the horn 0");
        int last = 2 * pairs - 1;
        BraidHorns x = withPairs(pairs);
        x.carrier(last, 0);
        checks.due("the contact of the last horn and horn 0", x.carrier(0, 2), NOT_POSSIBLE);
        BraidHorns y = withPairs(pairs);
        y.carrier(0, 2);
        checks.due("the contact of horn 0 and the last horn", y.carrier(last, 0), NOT_POSSIBLE);
        BraidHorns up = withPairs(pairs);
        up.carrier(last, 1);
        up.run(1);
        checks.due("from the last horn to horn 0", up.at(0, 2), 0);
        checks.due("it is up all the same", up.of(0, 7), 1);
        BraidHorns down = withPairs(pairs);
        down.carrier(0, 1);
        down.run(1);
        checks.due("from horn 0 to the last horn", down.at(last, 0), 0);
        checks.due("it is down all the same", down.of(0, 7), 0);
    }

    private static void notches(int pairs) {
        checks.sentence("Each has 4 notches");
        for (int horn = 0; horn < 2 * pairs; horn++) {
            BraidHorns x = withPairs(pairs);
            checks.due("notch -1 of " + horn, x.carrier(horn, -1), NO_SUCH);
            checks.due("notch 4 of " + horn, x.carrier(horn, 4), NO_SUCH);
            checks.due("at notch -1 of " + horn, x.at(horn, -1), NO_SUCH);
            checks.due("at notch 4 of " + horn, x.at(horn, 4), NO_SUCH);
            for (int notch = 0; notch < 4; notch++) {
                checks.due("notch " + notch + " of " + horn, x.carrier(horn, notch), notch);
                checks.due("at notch " + notch + " of " + horn, x.at(horn, notch), notch);
            }
        }
    }

    private static void contacts(int pairs) {
        checks.sentence("The notch 0 of a horn and the notch 2 of the next one make a contact; its number");
        int horns = 2 * pairs;
        for (int horn = 0; horn < horns; horn++) {
            int next = (horn + 1) % horns;
            BraidHorns x = withPairs(pairs);
            x.carrier(horn, horn % 2 == 0 ? 3 : 1);
            x.carrier(next, horn % 2 == 0 ? 3 : 1);
            checks.due("step of contact " + horn, x.meeting(0), 1);
            checks.due("contact " + horn, x.meeting(1), horn);
            checks.due("on horn " + horn, x.meeting(2), 0);
            checks.due("on the next one", x.meeting(3), 1);
        }
    }

    private static void oneAtAContact(int pairs) {
        checks.sentence("At a contact there is one carrier at most.");
        int horns = 2 * pairs;
        for (int place = 0; place < 4 * horns; place++) {
            for (int other = 0; other < 4 * horns; other++) {
                BraidHorns x = withPairs(pairs);
                x.carrier(place / 4, place % 4);
                boolean across = place % 4 == 0 && other == (place / 4 + 1) % horns * 4 + 2
                    || other % 4 == 0 && place == (other / 4 + 1) % horns * 4 + 2;
                int due = place == other || across ? NOT_POSSIBLE : 1;
                checks.due(place + ", then " + other, x.carrier(other / 4, other % 4), due);
            }
        }
    }

    /** The place to which a carrier turns, and the one to which it passes over then, as {horn, notch}. */
    private static int[][] way(int pairs, int horn, int notch) {
        int horns = 2 * pairs;
        int[] evenTurns = {1, 2, 3, 0};
        int[] oddTurns = {3, 0, 1, 2};
        int turned = horn % 2 == 0 ? evenTurns[notch] : oddTurns[notch];
        int[] then = {horn, turned};
        if (turned == 0) {
            then = new int[] {horn == horns - 1 ? 0 : horn + 1, 2};
        } else if (turned == 2) {
            then = new int[] {horn == 0 ? horns - 1 : horn - 1, 0};
        }
        return new int[][] {{horn, turned}, then};
    }

    private static void turning(int pairs) {
        checks.sentence("each horn with an even number turns to the next notch, each one with an odd number ahead");
        for (int horn = 0; horn < 2 * pairs; horn++) {
            for (int notch = 0; notch < 4; notch += 2) {
                BraidHorns x = withPairs(pairs);
                x.carrier(horn, notch);
                x.run(1);
                boolean next = horn % 2 == 0;
                int due = notch == 0 ? next ? 1 : 3 : next ? 3 : 1;
                checks.due("from " + horn + ", " + notch, x.at(horn, due), 0);
            }
        }
    }

    private static void passing(int pairs) {
        checks.sentence("Then each carrier at a contact passes over to the other horn's notch of that contact.");
        for (int horn = 0; horn < 2 * pairs; horn++) {
            for (int notch = 0; notch < 4; notch++) {
                BraidHorns x = withPairs(pairs);
                x.carrier(horn, notch);
                x.run(1);
                int[] due = way(pairs, horn, notch)[1];
                checks.due("horn from " + horn + ", " + notch, x.of(0, 0), due[0]);
                checks.due("notch from " + horn + ", " + notch, x.of(0, 1), due[1]);
            }
        }
    }

    private static void sides(int pairs) {
        checks.sentence("into the notch 1 by turning: by on the inner side, into the notch 3 on the outer side");
        for (int horn = 0; horn < 2 * pairs; horn++) {
            for (int notch = 0; notch < 4; notch++) {
                BraidHorns x = withPairs(pairs);
                x.carrier(horn, notch);
                x.run(1);
                int turned = way(pairs, horn, notch)[0][1];
                checks.due("inner from " + horn + ", " + notch, x.of(0, 4), turned == 1 ? 1 : 0);
                checks.due("outer from " + horn + ", " + notch, x.of(0, 5), turned == 3 ? 1 : 0);
            }
        }
    }

    private static void meetingBehindTheTurning(int pairs) {
        checks.sentence("4 two carriers would meet: behind the turning both notches of a contact would have one");
        int horns = 2 * pairs;
        for (int horn = 0; horn < horns; horn++) {
            int notch = horn % 2 == 0 ? 3 : 1;
            int next = (horn + 1) % horns;
            BraidHorns x = withPairs(pairs);
            x.carrier(horn, notch);
            checks.due("one at contact " + horn, x.why(), 0);
            x.carrier(next, notch);
            checks.due("two at contact " + horn, x.why(), 4);
            checks.due("run", x.run(1), 0);
            checks.due("reason", x.count(9), 4);
            checks.due("it did not turn", x.at(horn, notch), 0);
            checks.due("the other neither", x.at(next, notch), 1);
            x.takeOut(0);
            checks.due("the other one at contact " + horn, x.why(), 0);
        }
    }

    /** Two that come to different contacts, or of which one comes to a contact that the other one leaves. */
    private static void nearlyMeeting(int pairs) {
        checks.sentence("both notches of a contact would have one");
        int horns = 2 * pairs;
        for (int horn = 0; horn < horns; horn++) {
            int next = (horn + 1) % horns;
            int up = horn % 2 == 0 ? 3 : 1;
            int down = 4 - up;
            // On the next horn it is the other way round: from "down" one goes up there.
            notYet(pairs, "to both contacts", horn, up, horn, down);
            notYet(pairs, "both up", horn, up, next, down);
            notYet(pairs, "both down", horn, down, next, up);
            notYet(pairs, "away from each other", horn, down, next, down);
            notYet(pairs, "two horns apart", horn, up, (horn + 2) % horns, down);
            notYet(pairs, "one up ahead leaves", horn, up, next, 2);
            notYet(pairs, "one down goes by", horn, up, next, 0);
            notYet(pairs, "one at the contact leaves", horn, up, horn, 0);
        }
    }

    private static void notYet(int pairs, String name, int horn, int notch, int otherHorn, int otherNotch) {
        BraidHorns x = withPairs(pairs);
        x.carrier(horn, notch);
        checks.due("the other one " + name + " at " + horn, x.carrier(otherHorn, otherNotch), 1);
        checks.due(name + " at " + horn, x.why(), 0);
        checks.due("a step", x.run(1), 1);
    }

    private static void tenCarriers() {
        checks.sentence("There are up to 10 carriers");
        BraidHorns x = withPairs(6);
        for (int i = 0; i < 10; i++) {
            checks.due("carrier " + i, x.carrier(i, 1), i);
        }
        checks.due("an eleventh", x.carrier(10, 1), TOO_MANY);
        x.takeOut(4);
        checks.due("a tenth again", x.carrier(10, 1), 4);
        checks.due("an eleventh again", x.carrier(11, 1), TOO_MANY);
    }

    private static void numbersInOrder() {
        checks.sentence("numbered in the order in which they were put");
        BraidHorns x = new BraidHorns();
        int[][] places = {{5, 3}, {0, 0}, {3, 1}, {0, 3}};
        for (int i = 0; i < places.length; i++) {
            checks.due("carrier " + i, x.carrier(places[i][0], places[i][1]), i);
        }
        for (int i = 0; i < places.length; i++) {
            checks.due("horn of " + i, x.of(i, 0), places[i][0]);
            checks.due("notch of " + i, x.of(i, 1), places[i][1]);
        }
    }

    private static void lowestFreeNumber() {
        checks.sentence("one that is taken out leaves its number free: a new one gets the lowest number that is free");
        BraidHorns x = withPairs(6);
        Situations.upward(x, 10);
        for (int i : new int[] {7, 9, 0, 3}) {
            x.takeOut(i);
            checks.due("of a free number", x.of(i, 0), NO_SUCH);
        }
        int[] due = {0, 3, 7, 9};
        for (int i = 0; i < due.length; i++) {
            checks.due("new one " + i, x.carrier(due[i], 1 + 2 * ((due[i] + 1) % 2)), due[i]);
        }
        checks.due("no number is free", x.carrier(11, 1), TOO_MANY);
    }

    private static void asItIsPut() {
        checks.sentence("with a bobbin (of FILL ells as it is put), and an end that is whole or broken");
        BraidHorns x = new BraidHorns();
        int[] fills = {1, 999, 60};
        for (int i = 0; i < fills.length; i++) {
            x.set(BraidHorns.FILL, fills[i]);
            x.carrier(i, 1);
            checks.due("ells of " + i, x.of(i, 2), fills[i]);
            checks.due("end of " + i, x.of(i, 3), 0);
        }
        checks.due("the first bobbin stays", x.of(0, 2), 1);
        x.snap(1);
        checks.due("broken", x.of(1, 3), 1);
        checks.due("the others are whole", x.of(0, 3) + x.of(2, 3), 0);
    }

    private static void noCarrier() {
        checks.sentence("1 there is no carrier");
        BraidHorns x = new BraidHorns();
        checks.due("none", x.why(), 1);
        x.carrier(0, 1);
        checks.due("one", x.why(), 0);
        x.takeOut(0);
        checks.due("none again", x.why(), 1);
        checks.due("run", x.run(1), 0);
        checks.due("reason", x.count(9), 1);
    }

    private static void brokenEnd() {
        checks.sentence("2 the end of a carrier is broken");
        for (int broken = 0; broken < 10; broken++) {
            BraidHorns x = withPairs(6);
            Situations.upward(x, 10);
            x.snap(broken);
            checks.due("of carrier " + broken, x.why(), 2);
            checks.due("run", x.run(1), 0);
            x.tie(broken);
            checks.due("tied", x.why(), 0);
            x.snap(broken);
            x.takeOut(broken);
            checks.due("taken out", x.why(), 0);
        }
    }

    private static void emptyBobbin() {
        checks.sentence("3 a bobbin is empty");
        for (int empty = 0; empty < 10; empty++) {
            BraidHorns x = withPairs(6);
            x.set(BraidHorns.FILL, 2);
            Situations.upward(x, 10);
            x.run(1);
            for (int i = 0; i < 10; i++) {
                if (i != empty) {
                    x.refill(i);
                }
            }
            checks.due("one ell is enough", x.why(), 0);
            x.run(1);
            checks.due("of carrier " + empty, x.why(), 3);
            checks.due("run", x.run(1), 0);
            x.takeOut(empty);
            checks.due("taken out", x.why(), 0);
        }
    }

    private static void firstReason() {
        checks.sentence("A step is not done for the first of these reasons that is so");
        for (int set = 0; set < 8; set++) {
            BraidHorns x = new BraidHorns();
            x.set(BraidHorns.FILL, 1);
            x.carrier(2, 1);
            boolean broken = (set & 1) != 0;
            boolean empty = (set & 2) != 0;
            boolean meet = (set & 4) != 0;
            if (empty) {
                x.run(1);
            }
            if (meet) {
                x.carrier(4, 3);
                x.carrier(5, 3);
            }
            if (broken) {
                x.snap(0);
            }
            int due = broken ? 2 : empty ? 3 : meet ? 4 : 0;
            checks.due("broken " + broken + ", empty " + empty + ", meet " + meet, x.why(), due);
            checks.due("run", x.run(1), due == 0 ? 1 : 0);
            checks.due("reason", x.count(9), due);
        }
    }

    private static void spending() {
        checks.sentence("Each carrier spends an ell of its bobbin");
        BraidHorns x = withPairs(6);
        x.set(BraidHorns.FILL, 3);
        Situations.upward(x, 10);
        for (int steps = 1; steps <= 4; steps++) {
            int done = Math.min(steps, 3);
            checks.due("run", x.run(1), steps <= 3 ? 1 : 0);
            for (int i = 0; i < 10; i++) {
                checks.due("ells of " + i, x.of(i, 2), 3 - done);
                checks.due("spent by " + i, x.of(i, 6), done);
            }
            checks.due("on all", x.count(7), 30 - 10 * done);
            checks.due("spent by all", x.count(8), 10 * done);
        }
    }

    private static void growing() {
        checks.sentence("the cord grows by PULL; the steps are counted");
        BraidHorns x = new BraidHorns();
        x.carrier(0, 1);
        x.carrier(2, 1);
        int cord = 0;
        for (int pull = 1; pull <= 9; pull++) {
            x.set(BraidHorns.PULL, pull);
            x.run(2);
            cord += 2 * pull;
            checks.due("cord at PULL " + pull, x.count(3), cord);
            checks.due("steps", x.count(2), 2 * pull);
        }
    }

    private static void notByBeingPut() {
        checks.sentence("A carrier that comes into the notch 1 by turning");
        BraidHorns x = new BraidHorns();
        x.carrier(0, 1);
        x.carrier(0, 3);
        for (int i = 0; i < 2; i++) {
            checks.due("inner of " + i, x.of(i, 4), 0);
            checks.due("outer of " + i, x.of(i, 5), 0);
        }
        x.run(1);
        for (int i = 0; i < 2; i++) {
            checks.due("inner, behind a step that goes away, of " + i, x.of(i, 4), 0);
            checks.due("outer, behind a step that goes away, of " + i, x.of(i, 5), 0);
        }
    }
}
