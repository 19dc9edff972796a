/** Promises 1 to 8: each sentence that names a boundary case has a test of its own. */
final class ChangesEdgesTest {
    private static final int NO_SUCH = BraidHorns.NO_SUCH;
    private static final int BAD_VALUE = BraidHorns.BAD_VALUE;
    private static final int TOO_MANY = BraidHorns.TOO_MANY;
    private static final int NOT_POSSIBLE = BraidHorns.NOT_POSSIBLE;
    private static final int NONE = BraidHorns.NONE;

    private static final Checks checks = new Checks();

    public static void main(String[] args) {
        newTrack();
        newTracksShareNothing();
        setPreviousValue();
        setNoSuchSetting();
        setOutOfRange();
        setPairsWithCarriers();
        setChangesOnlyWhatComes();
        carrierNoSuchPlace();
        carrierNotchTaken();
        carrierContactTaken();
        carrierTooMany();
        takeOutElls();
        takeOutNoSuch();
        runRange();
        runUpToTheFirstNotDone();
        runNoneDone();
        runMostSteps();
        runMostStepsThoughNoneIsDone();
        runMostStepsIsUndone();
        snapHowMany();
        snapBroken();
        snapNoSuch();
        tieKnots();
        tieWhole();
        tieNoSuch();
        refillElls();
        refillNoSuch();
        eachIsAChange();
        checks.end();
    }

    private static void newTrack() {
        checks.sentence("1: Creates a track without carriers.");
        BraidHorns x = new BraidHorns();
        int[] counts = {6, 0, 0, 0, 0, 0, 0, 0, 0, 0, 3, 2, 60, 0, 0};
        for (int what = 0; what < counts.length; what++) {
            checks.due("count(" + what + ")", x.count(what), counts[what]);
        }
        for (int carrier = 0; carrier < 10; carrier++) {
            checks.due("of(" + carrier + ", 0)", x.of(carrier, 0), NO_SUCH);
        }
        for (int place = 0; place < 24; place++) {
            checks.due("at place " + place, x.at(place / 4, place % 4), NONE);
        }
        int[] answers = {x.around(0), x.why(), x.meeting(0), x.free(), x.firstFree(), x.period(), x.lasts(), x.wipe(),
            x.fault(), x.carryOut(), x.undo(), x.restore(0), x.restore(1)};
        int[] due = {NO_SUCH, 1, NONE, 24, 0, NOT_POSSIBLE, 0, 0, 0, BraidHorns.BAD_TEXT, NOT_POSSIBLE, NOT_POSSIBLE,
            NOT_POSSIBLE};
        for (int i = 0; i < due.length; i++) {
            checks.due("answer " + i, answers[i], due[i]);
        }
    }

    private static void newTracksShareNothing() {
        checks.sentence("1: Creates a track without carriers.");
        BraidHorns before = new BraidHorns();
        int[] looks = Checks.looks(before);
        for (Situations situation : Situations.values()) {
            situation.make();
            checks.same("a new one behind " + situation, new BraidHorns(), before);
        }
        for (int i = 0; i < looks.length; i++) {
            checks.due("an older one, look " + i, Checks.looks(before)[i], looks[i]);
        }
        checks.due("its history", before.undo(), NOT_POSSIBLE);
        checks.due("its slots", before.restore(0), NOT_POSSIBLE);
    }

    private static void setPreviousValue() {
        checks.sentence("2: Returns the previous value");
        int[][] values = {{3, 2, 6, 6, 3}, {2, 9, 1, 1, 2}, {60, 999, 1, 1, 60}};
        BraidHorns x = new BraidHorns();
        for (int i = 1; i < 5; i++) {
            for (int setting = 0; setting < 3; setting++) {
                checks.due("set " + setting, x.set(setting, values[setting][i]), values[setting][i - 1]);
            }
        }
    }

    private static void setNoSuchSetting() {
        checks.sentence("2: BAD_VALUE if there is no such setting");
        for (int setting : new int[] {-1, 3, 4, 10, Integer.MIN_VALUE, Integer.MAX_VALUE}) {
            BraidHorns x = new BraidHorns();
            for (int value : new int[] {0, 1, 2, 3, 6, 60}) {
                checks.due("set " + setting + " " + value, x.set(setting, value), BAD_VALUE);
            }
            checks.due("changes", x.count(14), 0);
        }
    }

    private static void setOutOfRange() {
        checks.sentence("2: BAD_VALUE if the value is out of its range");
        int[][] out = {{1, 7, 0, -1, 9}, {0, 10, -1, 60}, {0, 1000, -1, 9999}};
        for (int setting = 0; setting < 3; setting++) {
            BraidHorns x = new BraidHorns();
            for (int value : out[setting]) {
                checks.due("set " + setting + " " + value, x.set(setting, value), BAD_VALUE);
            }
            checks.due("least", x.set(setting, Integer.MIN_VALUE), BAD_VALUE);
            checks.due("most", x.set(setting, Integer.MAX_VALUE), BAD_VALUE);
            checks.due("changes", x.count(14), 0);
        }
    }

    private static void setPairsWithCarriers() {
        checks.sentence("2: NOT_POSSIBLE if it is PAIRS, and there is a carrier");
        for (int only = 0; only < 10; only++) {
            BraidHorns x = new BraidHorns();
            x.set(BraidHorns.PAIRS, 6);
            Situations.upward(x, 10);
            for (int i = 0; i < 10; i++) {
                if (i != only) {
                    x.takeOut(i);
                }
            }
            checks.due("only carrier " + only, x.set(BraidHorns.PAIRS, 2), NOT_POSSIBLE);
            checks.due("to the same value", x.set(BraidHorns.PAIRS, 6), NOT_POSSIBLE);
            checks.due("PULL is possible", x.set(BraidHorns.PULL, 3), 2);
            checks.due("FILL is possible", x.set(BraidHorns.FILL, 3), 60);
            x.takeOut(only);
            checks.due("without carriers", x.set(BraidHorns.PAIRS, 2), 6);
        }
    }

    private static void setChangesOnlyWhatComes() {
        checks.sentence("2: Changes a setting.");
        BraidHorns x = Situations.USED.make();
        int[] before = Checks.looks(x);
        x.set(BraidHorns.PULL, 9);
        x.set(BraidHorns.FILL, 999);
        int[] behind = Checks.looks(x);
        for (int i = 0; i < before.length; i++) {
            if (i < 11 || i > 14) {
                checks.due("look " + i, behind[i], before[i]);
            }
        }
        checks.due("the pad", behind[13], before[13]);
    }

    private static void carrierNoSuchPlace() {
        checks.sentence("3: NO_SUCH if there is no such horn or notch");
        BraidHorns x = new BraidHorns();
        int[] horns = {-1, 6, 7, 12, -6, Integer.MIN_VALUE, Integer.MAX_VALUE, 1 << 30};
        for (int horn : horns) {
            for (int notch = 0; notch < 4; notch++) {
                checks.due("carrier " + horn + " " + notch, x.carrier(horn, notch), NO_SUCH);
            }
        }
        int[] notches = {-1, 4, 5, -4, Integer.MIN_VALUE, Integer.MAX_VALUE, 1 << 30};
        for (int notch : notches) {
            for (int horn = 0; horn < 6; horn++) {
                checks.due("carrier " + horn + " " + notch, x.carrier(horn, notch), NO_SUCH);
            }
        }
        checks.due("just inside", x.carrier(5, 3), 0);
        checks.due("just inside below", x.carrier(0, 0), 1);
    }

    private static void carrierNotchTaken() {
        checks.sentence("3: NOT_POSSIBLE if the notch has a carrier");
        for (int place = 0; place < 24; place++) {
            BraidHorns x = new BraidHorns();
            checks.due("empty " + place, x.carrier(place / 4, place % 4), 0);
            checks.due("taken " + place, x.carrier(place / 4, place % 4), NOT_POSSIBLE);
            x.takeOut(0);
            checks.due("empty again " + place, x.carrier(place / 4, place % 4), 0);
        }
    }

    private static void carrierContactTaken() {
        checks.sentence("3: NOT_POSSIBLE if the other one of its contact has a carrier");
        for (int horn = 0; horn < 6; horn++) {
            int next = horn == 5 ? 0 : horn + 1;
            BraidHorns x = new BraidHorns();
            x.carrier(horn, 0);
            checks.due("next to " + horn, x.carrier(next, 2), NOT_POSSIBLE);
            checks.due("its other contact " + horn, x.carrier(horn, 2), 1);
            BraidHorns y = new BraidHorns();
            y.carrier(next, 2);
            checks.due("ahead of " + next, y.carrier(horn, 0), NOT_POSSIBLE);
            checks.due("its other contact " + next, y.carrier(next, 0), 1);
            BraidHorns z = new BraidHorns();
            z.carrier(horn, 1);
            checks.due("inside is no contact", z.carrier(next, 3), 1);
            checks.due("nor is it to the same side", z.carrier(next, 1), 2);
            checks.due("nor to the same horn", z.carrier(horn, 3), 3);
        }
    }

    private static void carrierTooMany() {
        checks.sentence("3: TOO_MANY if there are 10");
        BraidHorns x = new BraidHorns();
        for (int i = 0; i < 9; i++) {
            x.carrier(i / 2, 1 + i % 2 * 2);
        }
        checks.due("the tenth", x.carrier(5, 3), 9);
        checks.due("an eleventh", x.carrier(5, 1), TOO_MANY);
        checks.due("it is not put", x.at(5, 1), NONE);
        checks.due("nor is its bobbin", x.count(6), 600);
        for (int i = 0; i < 10; i++) {
            x.takeOut(i);
            checks.due("ten again with " + i, x.carrier(i == 9 ? 5 : i / 2, 1 + i % 2 * 2), i);
            checks.due("an eleventh again", x.carrier(5, 1), TOO_MANY);
        }
    }

    private static void takeOutElls() {
        checks.sentence("4: Takes a carrier out; what is on its bobbin is waste. Returns the ells that were on it");
        BraidHorns x = new BraidHorns();
        x.set(BraidHorns.FILL, 5);
        Situations.upward(x, 3);
        checks.due("a full one", x.takeOut(0), 5);
        checks.due("waste", x.count(5), 5);
        x.run(2);
        checks.due("a used one", x.takeOut(1), 3);
        checks.due("waste", x.count(5), 8);
        x.run(3);
        checks.due("an empty one", x.takeOut(2), 0);
        checks.due("waste", x.count(5), 8);
        checks.due("carriers", x.count(1), 0);
        checks.due("on bobbins", x.count(7), 0);
        checks.due("put on bobbins stays", x.count(6), 15);
        checks.due("spent stays", x.count(8), 7);
    }

    private static void takeOutNoSuch() {
        checks.sentence("4: NO_SUCH if there is no such carrier");
        for (int carrier : new int[] {-1, 1, 9, 10, 32, Integer.MIN_VALUE, Integer.MAX_VALUE}) {
            BraidHorns x = new BraidHorns();
            x.carrier(0, 1);
            checks.due("takeOut " + carrier, x.takeOut(carrier), NO_SUCH);
        }
        BraidHorns x = new BraidHorns();
        x.carrier(0, 1);
        x.takeOut(0);
        checks.due("taken out already", x.takeOut(0), NO_SUCH);
        checks.due("waste of it once", x.count(5), 60);
    }

    private static void runRange() {
        checks.sentence("5: steps: 1 to 99; BAD_VALUE if steps is out of range");
        BraidHorns x = new BraidHorns();
        x.set(BraidHorns.FILL, 999);
        x.carrier(0, 1);
        for (int steps : new int[] {0, 100, -1, 101, 9999, 10000, Integer.MIN_VALUE, Integer.MAX_VALUE}) {
            checks.due("run " + steps, x.run(steps), BAD_VALUE);
            checks.due("steps", x.count(2), 0);
        }
        checks.due("run 1", x.run(1), 1);
        checks.due("steps", x.count(2), 1);
        checks.due("run 99", x.run(99), 99);
        checks.due("steps", x.count(2), 100);
    }

    private static void runUpToTheFirstNotDone() {
        checks.sentence("5: Does steps, up to the first one that is not done. Returns how many are done");
        BraidHorns x = new BraidHorns();
        x.set(BraidHorns.FILL, 7);
        x.carrier(0, 1);
        checks.due("as many as ells", x.run(7), 7);
        checks.due("no reason", x.count(9), 0);
        x.refill(0);
        checks.due("one more than ells", x.run(8), 7);
        checks.due("reason", x.count(9), 3);
        BraidHorns y = new BraidHorns();
        y.carrier(0, 3);
        y.carrier(5, 3);
        // 0 goes up from the left as 1 goes back from the right: they come to the contact 2 in the step 5.
        checks.due("meeting in the step", y.meeting(0), 5);
        checks.due("up to the meeting", y.run(99), 4);
        checks.due("reason", y.count(9), 4);
        checks.due("steps", y.count(2), 4);
        checks.due("cord", y.count(3), 8);
        checks.due("spent", y.count(8), 8);
    }

    private static void runNoneDone() {
        checks.sentence("5: Does steps, up to the first one that is not done.");
        BraidHorns x = new BraidHorns();
        checks.due("no carrier", x.run(99), 0);
        checks.due("reason 1", x.count(9), 1);
        x.carrier(0, 1);
        x.snap(0);
        checks.due("a broken end", x.run(99), 0);
        checks.due("reason 2", x.count(9), 2);
        x.tie(0);
        x.run(60);
        checks.due("an empty bobbin", x.run(99), 0);
        checks.due("reason 3", x.count(9), 3);
        BraidHorns y = Situations.MEETING.make();
        checks.due("two that meet", y.run(99), 0);
        checks.due("reason 4", y.count(9), 4);
        checks.due("a change all the same", y.count(14), 3);
    }

    private static void runMostSteps() {
        checks.sentence("5: NOT_POSSIBLE if there would be more than 9999 steps, were all of them done");
        for (int steps = 0; steps <= 98; steps++) {
            BraidHorns x = Situations.NEAR_THE_LAST_STEP.make();
            if (steps > 0) {
                checks.due("run " + steps + " of 98", x.run(steps), steps);
            }
            int left = 98 - steps;
            checks.due("one more than are left", x.run(left + 1), NOT_POSSIBLE);
            checks.due("steps", x.count(2), 9901 + steps);
            if (left > 0) {
                checks.due("all that are left", x.run(left), left);
            }
            checks.due("steps", x.count(2), 9999);
            checks.due("none is left", x.run(1), NOT_POSSIBLE);
        }
    }

    private static void runMostStepsThoughNoneIsDone() {
        checks.sentence("5: NOT_POSSIBLE if there would be more than 9999 steps, were all of them done");
        BraidHorns x = Situations.NEAR_THE_LAST_STEP.make();
        x.snap(0);
        checks.due("run 99, none of which would be done", x.run(99), NOT_POSSIBLE);
        checks.due("no reason", x.count(9), 0);
        checks.due("run 98, none of which is done", x.run(98), 0);
        checks.due("reason", x.count(9), 2);
        x.takeOut(0);
        checks.due("run 99 without carriers", x.run(99), NOT_POSSIBLE);
        checks.due("run 98 without carriers", x.run(98), 0);
        checks.due("reason", x.count(9), 1);
    }

    private static void runMostStepsIsUndone() {
        checks.sentence("5: NOT_POSSIBLE if there would be more than 9999 steps, were all of them done");
        BraidHorns x = Situations.LAST_STEP.make();
        checks.due("none", x.run(1), NOT_POSSIBLE);
        x.undo();
        checks.due("steps behind undo()", x.count(2), 9900);
        checks.due("run 99", x.run(99), 99);
        checks.due("none again", x.run(1), NOT_POSSIBLE);
    }

    private static void snapHowMany() {
        checks.sentence("6: Returns how many ends are broken then");
        BraidHorns x = new BraidHorns();
        x.set(BraidHorns.PAIRS, 6);
        Situations.upward(x, 10);
        for (int i = 9; i >= 0; i--) {
            checks.due("snap " + i, x.snap(i), 10 - i);
        }
        x.tie(5);
        x.takeOut(6);
        checks.due("snap 5 again", x.snap(5), 9);
    }

    private static void snapBroken() {
        checks.sentence("6: NOT_POSSIBLE if it is broken");
        BraidHorns x = new BraidHorns();
        x.carrier(0, 1);
        x.carrier(2, 1);
        x.snap(0);
        checks.due("the broken one", x.snap(0), NOT_POSSIBLE);
        checks.due("the other one", x.snap(1), 2);
        checks.due("the other one again", x.snap(1), NOT_POSSIBLE);
        x.tie(0);
        checks.due("tied", x.snap(0), 2);
    }

    private static void snapNoSuch() {
        checks.sentence("6: NO_SUCH if there is no such carrier");
        BraidHorns x = new BraidHorns();
        x.carrier(0, 1);
        x.carrier(2, 1);
        x.snap(0);
        x.takeOut(0);
        for (int carrier : new int[] {-1, 0, 2, 9, 10, Integer.MIN_VALUE, Integer.MAX_VALUE}) {
            checks.due("snap " + carrier, x.snap(carrier), NO_SUCH);
        }
        checks.due("snap 1", x.snap(1), 1);
    }

    private static void tieKnots() {
        checks.sentence("7: it is whole again; that is a knot. Returns the knots so far");
        BraidHorns x = new BraidHorns();
        x.carrier(0, 1);
        x.carrier(2, 1);
        int knots = 0;
        for (int i = 0; i < 4; i++) {
            x.snap(0);
            x.snap(1);
            for (int carrier = 1; carrier >= 0; carrier--) {
                knots++;
                checks.due("tie " + carrier, x.tie(carrier), knots);
                checks.due("whole", x.of(carrier, 3), 0);
                checks.due("count(4)", x.count(4), knots);
            }
        }
        x.snap(0);
        x.takeOut(0);
        checks.due("a broken end that is taken out is no knot", x.count(4), knots);
    }

    private static void tieWhole() {
        checks.sentence("7: NOT_POSSIBLE if it is whole");
        BraidHorns x = new BraidHorns();
        x.carrier(0, 1);
        x.carrier(2, 1);
        checks.due("as it is put", x.tie(0), NOT_POSSIBLE);
        x.snap(1);
        checks.due("though another one is broken", x.tie(0), NOT_POSSIBLE);
        x.tie(1);
        checks.due("tied", x.tie(1), NOT_POSSIBLE);
        checks.due("knots", x.count(4), 1);
    }

    private static void tieNoSuch() {
        checks.sentence("7: NO_SUCH if there is no such carrier");
        BraidHorns x = new BraidHorns();
        x.carrier(0, 1);
        x.carrier(2, 1);
        x.snap(0);
        x.snap(1);
        x.takeOut(0);
        for (int carrier : new int[] {-1, 0, 2, 9, 10, Integer.MIN_VALUE, Integer.MAX_VALUE}) {
            checks.due("tie " + carrier, x.tie(carrier), NO_SUCH);
        }
        checks.due("tie 1", x.tie(1), 1);
    }

    private static void refillElls() {
        checks.sentence("8: a full bobbin, of FILL ells; what was on the other one is waste. Returns the ells on it");
        BraidHorns x = new BraidHorns();
        x.set(BraidHorns.FILL, 4);
        x.carrier(0, 1);
        checks.due("a full one", x.refill(0), 4);
        checks.due("waste", x.count(5), 4);
        x.run(3);
        checks.due("one with an ell", x.refill(0), 1);
        checks.due("waste", x.count(5), 5);
        x.run(4);
        x.set(BraidHorns.FILL, 999);
        checks.due("an empty one", x.refill(0), 0);
        checks.due("waste", x.count(5), 5);
        checks.due("the most ells", x.of(0, 2), 999);
        x.set(BraidHorns.FILL, 1);
        checks.due("the most ells on it", x.refill(0), 999);
        checks.due("the least ells", x.of(0, 2), 1);
        checks.due("waste", x.count(5), 1004);
        checks.due("put on bobbins", x.count(6), 4 + 4 + 4 + 999 + 1);
        checks.due("spent", x.count(8), 7);
    }

    private static void refillNoSuch() {
        checks.sentence("8: NO_SUCH if there is no such carrier");
        BraidHorns x = new BraidHorns();
        x.carrier(0, 1);
        x.carrier(2, 1);
        x.takeOut(0);
        for (int carrier : new int[] {-1, 0, 2, 9, 10, Integer.MIN_VALUE, Integer.MAX_VALUE}) {
            checks.due("refill " + carrier, x.refill(carrier), NO_SUCH);
        }
        checks.due("put on bobbins", x.count(6), 120);
        checks.due("refill 1", x.refill(1), 60);
    }

    private static void eachIsAChange() {
        checks.sentence("This is a change.");
        BraidHorns x = new BraidHorns();
        int[] answers = {x.set(BraidHorns.FILL, 9), x.carrier(0, 1), x.run(1), x.snap(0), x.tie(0), x.refill(0)};
        for (int answer : answers) {
            checks.due("no error", answer >= 0 ? 1 : 0, 1);
        }
        checks.due("six changes", x.count(14), 6);
        x.undo();
        checks.due("refill() undone", x.of(0, 2), 8);
        x.undo();
        checks.due("tie() undone", x.of(0, 3), 1);
        x.undo();
        checks.due("snap() undone", x.of(0, 3), 0);
        x.undo();
        checks.due("run() undone", x.count(2), 0);
        x.undo();
        checks.due("carrier() undone", x.count(1), 0);
        x.undo();
        checks.due("set() undone", x.count(12), 60);
        x.carrier(0, 1);
        x.takeOut(0);
        checks.due("two changes", x.count(14), 2);
        x.undo();
        checks.due("takeOut() undone", x.at(0, 1), 0);
    }
}
