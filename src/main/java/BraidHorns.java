/** A braider's track of horns and carriers; the promises it keeps are those of DOC.md. */
public final class BraidHorns {
    public static final int NO_SUCH = -1, BAD_VALUE = -2, BAD_TEXT = -3, TOO_MANY = -4, NOT_POSSIBLE = -5, NONE = -6;
    public static final int PAIRS = 0, PULL = 1, FILL = 2;

    private static final int NOTCHES = 4;
    private static final int MOST_CARRIERS = 10;
    private static final int MOST_STEPS = 9999;
    private static final int LONGEST_RUN = 99;
    private static final int FAR = 100;
    private static final int PAD_SIZE = 80;
    private static final int MOST_CHANGES = 6;
    private static final int SLOTS = 2;

    private static final int[] LOWEST = {2, 1, 1};
    private static final int[] HIGHEST = {6, 9, 999};

    private final Track track;
    // One track more than changes are kept: the last one takes the state before a change
    // of which it is not yet known whether it returns an error.
    private final Track[] history;
    private int changes;
    private final Track[] slots;
    private final boolean[] saved;
    private final Pad pad;

    public BraidHorns() {
        track = new Track();
        history = new Track[MOST_CHANGES + 1];
        for (int i = 0; i < history.length; i++) {
            history[i] = new Track();
        }
        changes = 0;
        slots = new Track[SLOTS];
        for (int i = 0; i < slots.length; i++) {
            slots[i] = new Track();
        }
        saved = new boolean[SLOTS];
        pad = new Pad();
    }

    public int set(int setting, int value) {
        keepState();
        return recorded(track.changeSetting(setting, value));
    }

    public int carrier(int horn, int notch) {
        keepState();
        return recorded(track.insert(horn, notch));
    }

    public int takeOut(int carrier) {
        keepState();
        return recorded(track.remove(carrier));
    }

    public int run(int steps) {
        keepState();
        return recorded(track.advance(steps));
    }

    public int snap(int carrier) {
        keepState();
        return recorded(track.breakEnd(carrier));
    }

    public int tie(int carrier) {
        keepState();
        return recorded(track.mendEnd(carrier));
    }

    public int refill(int carrier) {
        keepState();
        return recorded(track.changeBobbin(carrier));
    }

    public int of(int carrier, int what) {
        if (!track.hasCarrier(carrier)) {
            return NO_SUCH;
        }
        return track.carriers[carrier].tell(what);
    }

    public int at(int horn, int notch) {
        int place = track.placeOf(horn, notch);
        return place == NO_SUCH ? NO_SUCH : track.carrierIn(place);
    }

    public int around(int rank) {
        return track.carrierOfRank(rank);
    }

    public int count(int what) {
        switch (what) {
            case 13: return pad.length;
            case 14: return changes;
            default: return track.tell(what);
        }
    }

    public int why() {
        return track.hindrance();
    }

    public int meeting(int what) {
        if (what < 0 || what > 3) {
            return BAD_VALUE;
        }
        int horns = track.horns();
        long now = track.taken();
        int step = Motion.firstMeeting(now, horns, FAR);
        if (step == NONE || what == 0) {
            return step;
        }
        int contact = Motion.meetingContact(now, horns, step);
        if (contact == NONE || what == 1) {
            return contact;
        }
        int place = NOTCHES * contact;
        return track.carrierTurnedTo(what == 2 ? place : Motion.passed(place, horns), step);
    }

    public int free() {
        int horns = track.horns();
        long now = track.taken();
        int places = 0;
        for (int place = 0; place < NOTCHES * horns; place++) {
            if (Motion.staysFree(now, horns, place)) {
                places++;
            }
        }
        return places;
    }

    public int firstFree() {
        int horns = track.horns();
        long now = track.taken();
        for (int place = 0; place < NOTCHES * horns; place++) {
            if (Motion.staysFree(now, horns, place)) {
                return place;
            }
        }
        return NONE;
    }

    public int period() {
        long now = track.taken();
        if (now == 0) {
            return NOT_POSSIBLE;
        }
        return Motion.firstReturn(now, track.horns());
    }

    public int lasts() {
        if (track.hindrance() != 0) {
            return 0;
        }
        int ells = track.leastElls();
        int step = Motion.firstMeeting(track.taken(), track.horns(), ells);
        return step == NONE ? ells : step - 1;
    }

    public int put(long characters) {
        return pad.append(characters);
    }

    public int wipe() {
        return pad.empty();
    }

    public int fault() {
        return pad.faultIndex();
    }

    public int carryOut() {
        if (pad.faultIndex() != NONE) {
            return BAD_TEXT;
        }
        keepState();
        int orders = 0;
        int start = 0;
        while (orders < PAD_SIZE && start < pad.length && carryOutOrder(start) >= 0) {
            orders++;
            start = pad.nextOrder(start);
        }
        pad.empty();
        return recorded(orders);
    }

    public int undo() {
        if (changes == 0) {
            return NOT_POSSIBLE;
        }
        changes--;
        track.copyFrom(history[changes]);
        return changes;
    }

    public int save(int slot) {
        if (slot < 0 || slot >= SLOTS) {
            return BAD_VALUE;
        }
        slots[slot].copyFrom(track);
        saved[slot] = true;
        return track.carrierCount();
    }

    public int restore(int slot) {
        if (slot < 0 || slot >= SLOTS) {
            return BAD_VALUE;
        }
        if (!saved[slot]) {
            return NOT_POSSIBLE;
        }
        keepState();
        track.copyFrom(slots[slot]);
        return recorded(track.carrierCount());
    }

    /** Only the track is called here, never the public methods: an order records nothing by itself. */
    private int carryOutOrder(int start) {
        int number = pad.numberFrom(start + 1);
        switch (pad.signAt(start)) {
            case 'c': return track.insert(number, pad.notchFrom(start + 1));
            case 'x': return track.remove(number);
            case 'r': return track.advance(number);
            case 'b': return track.breakEnd(number);
            case 'k': return track.mendEnd(number);
            case 'f': return track.changeBobbin(number);
            default: return BAD_TEXT;
        }
    }

    private void keepState() {
        history[changes].copyFrom(track);
    }

    /** Makes the kept state one that can be undone, unless the answer of the change is an error. */
    private int recorded(int answer) {
        if (answer < 0) {
            return answer;
        }
        if (changes < MOST_CHANGES) {
            changes++;
            return answer;
        }
        Track oldest = history[0];
        for (int i = 0; i < MOST_CHANGES; i++) {
            history[i] = history[i + 1];
        }
        history[MOST_CHANGES] = oldest;
        return answer;
    }

    /**
     * How places move. A place is 4 * horn + notch; a set of places is a mask with the bit of each
     * place, so that all carriers are moved by a few shifts when many steps are looked ahead.
     */
    private static final class Motion {
        private static final long EVEN_HORNS = 0x0F0F0F0F0F0FL;
        private static final long ODD_HORNS = 0xF0F0F0F0F0F0L;
        private static final long NOTCH_0 = 0x111111111111L;
        private static final long NOTCH_2 = 0x444444444444L;
        private static final long NOTCH_3 = 0x888888888888L;
        // From notch 0 of a horn to notch 2 of the next one.
        private static final int CONTACT = 6;
        private static final long MET = -1L;

        private Motion() {
        }

        static int turned(int place) {
            int horn = place / NOTCHES;
            int turn = horn % 2 == 0 ? 1 : NOTCHES - 1;
            return NOTCHES * horn + (place + turn) % NOTCHES;
        }

        /** The other place of the contact, or the place itself where there is no contact. */
        static int passed(int place, int horns) {
            int places = NOTCHES * horns;
            switch (place % NOTCHES) {
                case 0: return place + CONTACT < places ? place + CONTACT : place + CONTACT - places;
                case 2: return place >= CONTACT ? place - CONTACT : place - CONTACT + places;
                default: return place;
            }
        }

        static boolean goesUp(int place) {
            int notch = place % NOTCHES;
            boolean even = place / NOTCHES % 2 == 0;
            return notch == 2 || notch == (even ? 3 : 1);
        }

        static long allTurned(long places) {
            long even = places & EVEN_HORNS;
            long odd = places & ODD_HORNS;
            long ahead = (even & ~NOTCH_3) << 1 | (even & NOTCH_3) >>> 3;
            long back = (odd & ~NOTCH_0) >>> 1 | (odd & NOTCH_0) << 3;
            return ahead | back;
        }

        private static long toNextHorn(long places, int horns) {
            int size = NOTCHES * horns;
            return (places << CONTACT | places >>> (size - CONTACT)) & ((1L << size) - 1);
        }

        private static long toHornBefore(long places, int horns) {
            int size = NOTCHES * horns;
            return (places >>> CONTACT | places << (size - CONTACT)) & ((1L << size) - 1);
        }

        private static long allPassed(long places, int horns) {
            return places & ~(NOTCH_0 | NOTCH_2)
                | toNextHorn(places & NOTCH_0, horns)
                | toHornBefore(places & NOTCH_2, horns);
        }

        /** The notches 0 of the contacts of which both notches are among the places. */
        static long meetings(long places, int horns) {
            return places & NOTCH_0 & toHornBefore(places & NOTCH_2, horns);
        }

        /** The places behind a step, or MET. */
        private static long behindStep(long places, int horns) {
            long turned = allTurned(places);
            return meetings(turned, horns) != 0 ? MET : allPassed(turned, horns);
        }

        static int firstMeeting(long places, int horns, int limit) {
            long now = places;
            for (int step = 1; step <= limit; step++) {
                now = behindStep(now, horns);
                if (now == MET) {
                    return step;
                }
                if (now == places) {
                    // From here on all goes as it went before.
                    return NONE;
                }
            }
            return NONE;
        }

        /** The lowest contact at which two meet in a step, if none met before it. */
        static int meetingContact(long places, int horns, int step) {
            long now = places;
            for (int i = 1; i < step; i++) {
                now = behindStep(now, horns);
            }
            long met = meetings(allTurned(now), horns);
            for (int contact = 0; contact < horns; contact++) {
                if ((met >>> NOTCHES * contact & 1) != 0) {
                    return contact;
                }
            }
            return NONE;
        }

        static int firstReturn(long places, int horns) {
            long now = places;
            for (int step = 1; step <= FAR; step++) {
                now = behindStep(now, horns);
                if (now == MET) {
                    return NONE;
                }
                if (now == places) {
                    return step;
                }
            }
            return NONE;
        }

        static boolean fits(long places, int horns, int place) {
            return (places & (1L << place | 1L << passed(place, horns))) == 0;
        }

        static boolean staysFree(long places, int horns, int place) {
            return fits(places, horns, place)
                && firstMeeting(places | 1L << place, horns, FAR) == NONE;
        }
    }

    private static final class Carrier {
        boolean there;
        int place;
        int ells;
        boolean broken;
        int inner;
        int outer;
        int spent;

        void begin(int newPlace, int newElls) {
            there = true;
            place = newPlace;
            ells = newElls;
            broken = false;
            inner = 0;
            outer = 0;
            spent = 0;
        }

        void copyCarrier(Carrier other) {
            there = other.there;
            place = other.place;
            ells = other.ells;
            broken = other.broken;
            inner = other.inner;
            outer = other.outer;
            spent = other.spent;
        }

        void move(int horns) {
            int turned = Motion.turned(place);
            switch (turned % NOTCHES) {
                case 1: inner++; break;
                case 3: outer++; break;
                default: break;
            }
            place = Motion.passed(turned, horns);
            ells--;
            spent++;
        }

        int tell(int what) {
            switch (what) {
                case 0: return place / NOTCHES;
                case 1: return place % NOTCHES;
                case 2: return ells;
                case 3: return broken ? 1 : 0;
                case 4: return inner;
                case 5: return outer;
                case 6: return spent;
                case 7: return Motion.goesUp(place) ? 1 : 0;
                default: return BAD_VALUE;
            }
        }
    }

    /** All that undo and the slots keep. */
    private static final class Track {
        final int[] settings;
        final Carrier[] carriers;
        int steps;
        int cord;
        int knots;
        int waste;
        int filled;
        int spent;
        int reason;

        Track() {
            settings = new int[] {3, 2, 60};
            carriers = new Carrier[MOST_CARRIERS];
            for (int i = 0; i < carriers.length; i++) {
                carriers[i] = new Carrier();
            }
        }

        void copyFrom(Track other) {
            System.arraycopy(other.settings, 0, settings, 0, settings.length);
            for (int i = 0; i < carriers.length; i++) {
                carriers[i].copyCarrier(other.carriers[i]);
            }
            steps = other.steps;
            cord = other.cord;
            knots = other.knots;
            waste = other.waste;
            filled = other.filled;
            spent = other.spent;
            reason = other.reason;
        }

        int horns() {
            return 2 * settings[PAIRS];
        }

        boolean hasCarrier(int carrier) {
            return carrier >= 0 && carrier < MOST_CARRIERS && carriers[carrier].there;
        }

        int placeOf(int horn, int notch) {
            if (horn < 0 || horn >= horns() || notch < 0 || notch >= NOTCHES) {
                return NO_SUCH;
            }
            return NOTCHES * horn + notch;
        }

        int carrierIn(int place) {
            for (int i = 0; i < MOST_CARRIERS; i++) {
                if (carriers[i].there && carriers[i].place == place) {
                    return i;
                }
            }
            return NONE;
        }

        /** The carrier that is in a place behind the turning of a step, if none met before it. */
        int carrierTurnedTo(int place, int step) {
            for (int i = 0; i < MOST_CARRIERS; i++) {
                if (carriers[i].there && turnedPlace(carriers[i].place, step) == place) {
                    return i;
                }
            }
            return NONE;
        }

        private int turnedPlace(int place, int step) {
            int now = Motion.turned(place);
            for (int i = 1; i < step; i++) {
                now = Motion.turned(Motion.passed(now, horns()));
            }
            return now;
        }

        int carrierOfRank(int rank) {
            int left = rank;
            for (int place = 0; place < NOTCHES * horns(); place++) {
                int carrier = carrierIn(place);
                if (carrier != NONE) {
                    if (left == 0) {
                        return carrier;
                    }
                    left--;
                }
            }
            return NO_SUCH;
        }

        long taken() {
            long places = 0;
            for (int i = 0; i < MOST_CARRIERS; i++) {
                if (carriers[i].there) {
                    places |= 1L << carriers[i].place;
                }
            }
            return places;
        }

        int carrierSet() {
            int mask = 0;
            for (int i = 0; i < MOST_CARRIERS; i++) {
                if (carriers[i].there) {
                    mask |= 1 << i;
                }
            }
            return mask;
        }

        int carrierCount() {
            return Integer.bitCount(carrierSet());
        }

        private int brokenEnds() {
            int ends = 0;
            for (int i = 0; i < MOST_CARRIERS; i++) {
                if (carriers[i].there && carriers[i].broken) {
                    ends++;
                }
            }
            return ends;
        }

        private int allElls() {
            int sum = 0;
            for (int i = 0; i < MOST_CARRIERS; i++) {
                if (carriers[i].there) {
                    sum += carriers[i].ells;
                }
            }
            return sum;
        }

        /** The ells on the emptiest bobbin; without carriers, more than any bobbin has. */
        int leastElls() {
            int least = HIGHEST[FILL] + 1;
            for (int i = 0; i < MOST_CARRIERS; i++) {
                if (carriers[i].there) {
                    least = Math.min(least, carriers[i].ells);
                }
            }
            return least;
        }

        /** The first reason for which a step is not done now, or 0. */
        int hindrance() {
            long places = taken();
            if (places == 0) {
                return 1;
            }
            if (brokenEnds() > 0) {
                return 2;
            }
            if (leastElls() == 0) {
                return 3;
            }
            return Motion.meetings(Motion.allTurned(places), horns()) == 0 ? 0 : 4;
        }

        int changeSetting(int setting, int value) {
            if (setting < PAIRS || setting > FILL) {
                return BAD_VALUE;
            }
            if (value < LOWEST[setting] || value > HIGHEST[setting]) {
                return BAD_VALUE;
            }
            if (setting == PAIRS && carrierSet() != 0) {
                return NOT_POSSIBLE;
            }
            int previous = settings[setting];
            settings[setting] = value;
            return previous;
        }

        int insert(int horn, int notch) {
            int place = placeOf(horn, notch);
            if (place == NO_SUCH) {
                return NO_SUCH;
            }
            if (!Motion.fits(taken(), horns(), place)) {
                return NOT_POSSIBLE;
            }
            for (int i = 0; i < MOST_CARRIERS; i++) {
                if (!carriers[i].there) {
                    carriers[i].begin(place, settings[FILL]);
                    filled += settings[FILL];
                    return i;
                }
            }
            return TOO_MANY;
        }

        int remove(int carrier) {
            if (!hasCarrier(carrier)) {
                return NO_SUCH;
            }
            int ells = carriers[carrier].ells;
            carriers[carrier].there = false;
            waste += ells;
            return ells;
        }

        int advance(int wanted) {
            if (wanted < 1 || wanted > LONGEST_RUN) {
                return BAD_VALUE;
            }
            if (steps + wanted > MOST_STEPS) {
                return NOT_POSSIBLE;
            }
            for (int done = 0; done < wanted; done++) {
                reason = hindrance();
                if (reason != 0) {
                    return done;
                }
                doStep();
            }
            return wanted;
        }

        private void doStep() {
            for (int i = 0; i < MOST_CARRIERS; i++) {
                if (carriers[i].there) {
                    carriers[i].move(horns());
                    spent++;
                }
            }
            cord += settings[PULL];
            steps++;
        }

        int breakEnd(int carrier) {
            if (!hasCarrier(carrier)) {
                return NO_SUCH;
            }
            if (carriers[carrier].broken) {
                return NOT_POSSIBLE;
            }
            carriers[carrier].broken = true;
            return brokenEnds();
        }

        int mendEnd(int carrier) {
            if (!hasCarrier(carrier)) {
                return NO_SUCH;
            }
            if (!carriers[carrier].broken) {
                return NOT_POSSIBLE;
            }
            carriers[carrier].broken = false;
            knots++;
            return knots;
        }

        int changeBobbin(int carrier) {
            if (!hasCarrier(carrier)) {
                return NO_SUCH;
            }
            int ells = carriers[carrier].ells;
            carriers[carrier].ells = settings[FILL];
            waste += ells;
            filled += settings[FILL];
            return ells;
        }

        int tell(int what) {
            switch (what) {
                case 0: return horns();
                case 1: return carrierSet();
                case 2: return steps;
                case 3: return cord;
                case 4: return knots;
                case 5: return waste;
                case 6: return filled;
                case 7: return allElls();
                case 8: return spent;
                case 9: return reason;
                case 10: return settings[PAIRS];
                case 11: return settings[PULL];
                case 12: return settings[FILL];
                default: return BAD_VALUE;
            }
        }
    }

    /** The text of orders, and what its grammar says of it. */
    private static final class Pad {
        // What can stand at a place of the text.
        private static final int WRONG = -1;
        private static final int LETTER = 0;
        private static final int HORN = 1;
        private static final int DIGIT_OR_DOT = 2;
        private static final int DOT = 3;
        private static final int STEPS = 4;
        private static final int DIGIT_OR_END = 5;
        private static final int DIGIT = 6;
        private static final int END = 7;

        private static final int MOST_AT_ONCE = 8;

        final char[] signs;
        int length;

        Pad() {
            signs = new char[PAD_SIZE];
            length = 0;
        }

        int append(long characters) {
            int added = characterCount(characters);
            if (added == 0) {
                return BAD_VALUE;
            }
            if (length + added > PAD_SIZE) {
                return TOO_MANY;
            }
            for (int i = added - 1; i >= 0; i--) {
                signs[length] = (char) (characters >>> 8 * i & 255);
                length++;
            }
            return length;
        }

        /** How many characters a number stands for; 0 if it is not a good one. */
        private static int characterCount(long characters) {
            long rest = characters;
            int found = 0;
            while (rest != 0 && found < MOST_AT_ONCE) {
                long code = rest & 255;
                if (code < 33 || code > 126) {
                    return 0;
                }
                rest >>>= 8;
                found++;
            }
            return found;
        }

        int empty() {
            int before = length;
            length = 0;
            return before;
        }

        int faultIndex() {
            int due = LETTER;
            for (int i = 0; i < length; i++) {
                due = dueBehind(due, signs[i]);
                if (due == WRONG) {
                    return i;
                }
            }
            return due == END || due == DIGIT_OR_END ? NONE : length;
        }

        /** What can stand behind a sign that stands where something was due. */
        private static int dueBehind(int due, char sign) {
            boolean digit = isDigit(sign);
            switch (due) {
                case LETTER: return dueBehindLetter(sign);
                case HORN: return !digit ? WRONG : sign == '0' ? DOT : DIGIT_OR_DOT;
                case DIGIT_OR_DOT: return digit ? DOT : sign == '.' ? DIGIT : WRONG;
                case DOT: return sign == '.' ? DIGIT : WRONG;
                case STEPS: return !digit ? WRONG : sign == '0' ? END : DIGIT_OR_END;
                case DIGIT_OR_END: return digit ? END : sign == ';' ? LETTER : WRONG;
                case DIGIT: return digit ? END : WRONG;
                default: return sign == ';' ? LETTER : WRONG;
            }
        }

        private static int dueBehindLetter(char sign) {
            switch (sign) {
                case 'c': return HORN;
                case 'r': return STEPS;
                case 'x': case 'b': case 'k': case 'f': return DIGIT;
                default: return WRONG;
            }
        }

        private static boolean isDigit(char sign) {
            return sign >= '0' && sign <= '9';
        }

        char signAt(int index) {
            return index >= 0 && index < length ? signs[index] : 0;
        }

        private int behindDigits(int start) {
            int index = start;
            while (index < length && isDigit(signAt(index))) {
                index++;
            }
            return index;
        }

        int numberFrom(int start) {
            int number = 0;
            int end = behindDigits(start);
            for (int i = start; i < end; i++) {
                number = 10 * number + signAt(i) - '0';
            }
            return number;
        }

        /** The number behind the dot that follows the number at the start. */
        int notchFrom(int start) {
            return numberFrom(behindDigits(start) + 1);
        }

        int nextOrder(int start) {
            int index = start;
            while (index < length && signAt(index) != ';') {
                index++;
            }
            return index + 1;
        }
    }
}
