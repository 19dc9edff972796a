/** The texts under "Terms" and promises 19 to 22: each sentence that names a boundary case has a test of its own. */
final class TextsEdgesTest {
    private static final int BAD_VALUE = BraidHorns.BAD_VALUE;
    private static final int BAD_TEXT = BraidHorns.BAD_TEXT;
    private static final int TOO_MANY = BraidHorns.TOO_MANY;
    private static final int NONE = BraidHorns.NONE;

    private static final Checks checks = new Checks();

    public static void main(String[] args) {
        atMost80();
        wouldBeLonger();
        everySignAtEveryPlace();
        orders();
        digits();
        numbersOfHorns();
        numbersOfSteps();
        faultAbove99();
        faultLeadingZero();
        faultEndsTooEarly();
        faultEmpty();
        faultFirst();
        faultOfAFullPad();
        putOneToEight();
        putCodes();
        putEachByte();
        putZeroBits();
        putNoCharacter();
        putLastCharacter();
        putAppends();
        wipeLength();
        carryOutInOrder();
        carryOutMeanings();
        carryOutFirstError();
        carryOutNone();
        carryOutBadText();
        carryOutEmptyPad();
        carryOutFullPad();
        carryOutOneChange();
        carryOutStepsNotDone();
        carryOutTenCarriers();
        checks.end();
    }

    private static BraidHorns pad(String text) {
        BraidHorns x = new BraidHorns();
        for (int i = 0; i < text.length(); i++) {
            x.put(text.charAt(i));
        }
        return x;
    }

    private static void fault(String text, int due) {
        BraidHorns x = pad(text);
        checks.due("fault of " + text, x.fault(), due);
        checks.due("and again", x.fault(), due);
        checks.due("the pad stays", x.count(13), text.length());
    }

    private static void atMost80() {
        checks.sentence("The pad is a text of at most 80 characters");
        BraidHorns x = new BraidHorns();
        for (int length = 1; length <= 80; length++) {
            checks.due("put", x.put('r'), length);
        }
        checks.due("one more", x.put('r'), TOO_MANY);
        checks.due("count(13)", x.count(13), 80);
        checks.due("wipe", x.wipe(), 80);
        checks.due("put", x.put('r'), 1);
    }

    private static void wouldBeLonger() {
        checks.sentence("19: TOO_MANY if the pad would be longer than 80");
        String text = "r1;r2;r3";
        for (int length = 72; length <= 80; length++) {
            for (int more = 1; more <= 8; more++) {
                BraidHorns x = pad("r".repeat(length));
                int due = length + more <= 80 ? length + more : TOO_MANY;
                checks.due(more + " behind " + length, x.put(Checks.word(text.substring(0, more))), due);
                checks.due("count(13)", x.count(13), due == TOO_MANY ? length : due);
            }
        }
    }

    /** Of each sign behind each beginning of an order; the row tells the signs that can stand there. */
    private static void everySignAtEveryPlace() {
        checks.sentence("the index of the first character that cannot stand at its place");
        String any = "0123456789";
        String[][] rows = {{"", "cxrbkf"}, {"c", any}, {"c0", "."}, {"c1", any + "."}, {"c9", any + "."}, {"c10", "."},
            {"c99", "."}, {"c1.", any}, {"c1.0", ";"}, {"c10.9", ";"}, {"x", any}, {"x0", ";"}, {"x9", ";"}, {"r", any},
            {"r0", ";"}, {"r1", any + ";"}, {"r9", any + ";"}, {"r10", ";"}, {"r99", ";"}, {"b", any}, {"b0", ";"},
            {"k", any}, {"k5", ";"}, {"f", any}, {"f9", ";"}, {"c1.1;", "cxrbkf"}, {"x1;", "cxrbkf"}, {"r1;", "cxrbkf"},
            {"r11;", "cxrbkf"}, {"b1;", "cxrbkf"}, {"k1;", "cxrbkf"}, {"f1;", "cxrbkf"}, {"r1;x1;c", any}};
        for (String[] row : rows) {
            for (char sign = 33; sign <= 126; sign++) {
                String text = row[0] + sign;
                int fault = pad(text).fault();
                boolean wrong = fault == text.length() - 1;
                checks.due("fault of " + text, wrong ? 1 : 0, row[1].indexOf(sign) < 0 ? 1 : 0);
                if (!wrong) {
                    checks.due("whole " + text, fault, isWhole(text) ? NONE : text.length());
                }
            }
        }
    }

    private static boolean isWhole(String text) {
        String order = "(c(0|[1-9]\\d?)\\.\\d|r(0|[1-9]\\d?)|[xbkf]\\d)";
        return text.matches(order + "(;" + order + ")*");
    }

    private static void orders() {
        checks.sentence("text = order { \";\" order }");
        String[] all = {"c0.0", "x0", "r1", "b0", "k0", "f0"};
        for (String order : all) {
            fault(order, NONE);
            fault(order + ";", order.length() + 1);
            fault(";" + order, 0);
            fault(order + ",", order.length());
            for (String next : all) {
                fault(order + ";" + next, NONE);
                fault(order + next, order.length());
                fault(order + ";;" + next, order.length() + 1);
            }
        }
    }

    private static void digits() {
        checks.sentence("A digit is 0 to 9");
        for (String letter : new String[] {"x", "b", "k", "f", "c1."}) {
            for (char sign = '0'; sign <= '9'; sign++) {
                fault(letter + sign, NONE);
            }
            fault(letter + '/', letter.length());
            fault(letter + ':', letter.length());
            fault(letter + "10", letter.length() + 1);
            fault(letter + "00", letter.length() + 1);
            fault(letter, letter.length());
        }
    }

    private static void numbersOfHorns() {
        checks.sentence("\"c\" number \".\" digit: a number 0 to 99");
        for (int number = 0; number <= 99; number++) {
            fault("c" + number + ".0", NONE);
        }
        fault("c100.0", 3);
        fault("c-1.0", 1);
        fault("c.0", 1);
        fault("c1,0", 2);
        fault("c11,0", 3);
    }

    private static void numbersOfSteps() {
        checks.sentence("\"r\" number: a number 0 to 99");
        for (int number = 0; number <= 99; number++) {
            fault("r" + number, NONE);
        }
        fault("r100", 3);
        fault("r-1", 1);
        fault("r+1", 1);
        fault("r;r1", 1);
    }

    private static void faultAbove99() {
        checks.sentence("(also of a digit by which a number would be above 99)");
        for (int tens = 10; tens <= 99; tens++) {
            for (int digit = 0; digit <= 9; digit += 9) {
                fault("r" + tens + digit, 3);
                fault("c" + tens + digit + ".1", 3);
            }
        }
        fault("r1;r999", 6);
    }

    private static void faultLeadingZero() {
        checks.sentence("a number 0 to 99, without leading zeros");
        for (int digit = 0; digit <= 9; digit++) {
            fault("r0" + digit, 2);
            fault("c0" + digit + ".1", 2);
        }
        fault("r0", NONE);
        fault("c0.1", NONE);
    }

    private static void faultEndsTooEarly() {
        checks.sentence("if there is none and the text ends too early, it is the length of the text");
        for (String text : new String[] {"c", "c0", "c1", "c10", "c99", "c0.", "c10.", "x", "r", "b", "k", "f", "r1;",
            "r10;", "x1;c", "x1;c4", "x1;c4.", "c1.1;"}) {
            fault(text, text.length());
        }
    }

    private static void faultEmpty() {
        checks.sentence("(also if it is empty)");
        BraidHorns x = new BraidHorns();
        checks.due("a new pad", x.fault(), 0);
        x.put('r');
        checks.due("a letter", x.fault(), 1);
        x.wipe();
        checks.due("wiped", x.fault(), 0);
        x.put(Checks.word("r1"));
        x.carryOut();
        checks.due("carried out", x.fault(), 0);
    }

    private static void faultFirst() {
        checks.sentence("the first character that cannot stand at its place when the text is read from left to right");
        fault("r1;q;q", 3);
        fault("qq", 0);
        fault("r00;r00", 2);
        fault("c1.1;c1.1;c1..1", 13);
        fault("R1", 0);
        fault("C1.1", 0);
        fault("r1;X1", 3);
    }

    private static void faultOfAFullPad() {
        checks.sentence("if there is none and the text ends too early, it is the length of the text");
        fault("r1;".repeat(26) + "r1", NONE);
        fault("r1;".repeat(26) + "r;", 79);
        fault("r11;".repeat(20), 80);
        fault("q" + "r1;".repeat(26) + "r", 0);
        fault("x1;".repeat(25) + "c10.1", NONE);
        fault("x1;".repeat(25) + "c100.", 78);
    }

    private static void putOneToEight() {
        checks.sentence("19: characters: 1 to 8 characters");
        String text = "c0.1;x0;";
        for (int length = 1; length <= 8; length++) {
            BraidHorns x = new BraidHorns();
            checks.due(length + " characters", x.put(Checks.word(text.substring(0, length))), length);
            checks.due("count(13)", x.count(13), length);
            checks.due("wipe", x.wipe(), length);
        }
    }

    private static void putCodes() {
        checks.sentence("19: BAD_VALUE if a code is not 33 to 126");
        for (int code = 0; code < 256; code++) {
            BraidHorns x = new BraidHorns();
            checks.due("code " + code, x.put(code), code >= 33 && code <= 126 ? 1 : BAD_VALUE);
        }
    }

    private static void putEachByte() {
        checks.sentence("19: BAD_VALUE if a code is not 33 to 126");
        long eight = Checks.word("r1;r2;r3");
        for (int i = 0; i < 8; i++) {
            for (int code = 1; code < 256; code++) {
                BraidHorns x = new BraidHorns();
                long word = eight & ~(255L << 8 * i) | (long) code << 8 * i;
                checks.due("code " + code + " at " + i, x.put(word), code >= 33 && code <= 126 ? 8 : BAD_VALUE);
            }
        }
    }

    private static void putZeroBits() {
        checks.sentence("19: BAD_VALUE if a bit above 8 bits that are 0 is not 0");
        String text = "r1;r2;r3";
        for (int length = 0; length < 7; length++) {
            long word = Checks.word(text.substring(0, length));
            for (int bit = 8 * length + 8; bit < 64; bit++) {
                BraidHorns x = new BraidHorns();
                checks.due("bit " + bit + " above " + length, x.put(word | 1L << bit), BAD_VALUE);
                checks.due("nothing is put", x.count(13), 0);
            }
        }
    }

    private static void putNoCharacter() {
        checks.sentence("19: BAD_VALUE if there is no character");
        checks.due("an empty pad", new BraidHorns().put(0), BAD_VALUE);
        checks.due("a full pad", Situations.FULL.make().put(0), BAD_VALUE);
    }

    private static void putLastCharacter() {
        checks.sentence("19: its lowest 8 bits are the last character, the next 8 bits the one before, and so on");
        BraidHorns x = new BraidHorns();
        x.put(0x72L << 8 | 0x37);
        checks.due("r7", x.fault(), NONE);
        BraidHorns y = new BraidHorns();
        y.put(0x37L << 8 | 0x72);
        checks.due("7r", y.fault(), 0);
        BraidHorns z = new BraidHorns();
        checks.due("c0.1;c2.", z.put(0x63302E313B63322EL), 8);
        z.put(0x33);
        checks.due("c0.1;c2.3", z.carryOut(), 2);
        checks.due("0.1", z.at(0, 1), 0);
        checks.due("2.3", z.at(2, 3), 1);
    }

    private static void putAppends() {
        checks.sentence("19: Appends characters to the pad. Returns the length of the pad then");
        for (int piece = 1; piece <= 8; piece++) {
            BraidHorns x = new BraidHorns();
            String text = "c0.1;c2.1;b1;r5;k1;r12;f0;x1";
            for (int i = 0; i < text.length(); i += piece) {
                int end = Math.min(i + piece, text.length());
                checks.due("up to " + end, x.put(Checks.word(text.substring(i, end))), end);
            }
            checks.due("orders", x.carryOut(), 8);
            checks.due("steps", x.count(2), 12);
        }
    }

    private static void wipeLength() {
        checks.sentence("20: Empties the pad, and returns the length that it had.");
        for (int length = 0; length <= 80; length++) {
            BraidHorns x = pad("r".repeat(length));
            checks.due("wipe", x.wipe(), length);
            checks.due("wipe again", x.wipe(), 0);
            checks.due("count(13)", x.count(13), 0);
            checks.due("fault", x.fault(), 0);
            checks.due("no change", x.count(14), 0);
        }
    }

    private static void carryOutInOrder() {
        checks.sentence("22: Carries the orders of the pad out, one after the other");
        BraidHorns x = pad("c0.3;c1.3;x0;c2.3;r1");
        checks.due("orders", x.carryOut(), 5);
        checks.due("the number 0 again", x.at(2, 3), BraidHorns.NONE);
        checks.due("a step behind 2.3", x.at(3, 2), 0);
        checks.due("a step behind 1.3", x.at(0, 0), 1);
        BraidHorns y = pad("r1;c0.3;r2;b0;r3;k0;r4");
        checks.due("orders", y.carryOut(), 7);
        checks.due("steps", y.count(2), 6);
    }

    private static void carryOutMeanings() {
        checks.sentence("c: carrier(), x: takeOut(), r: run(), b: snap(), k: tie(), f: refill()");
        String[] texts = {"c5.3", "c10.0", "c11.3", "x0", "x9", "r1", "r99", "b0", "b9", "k4", "f0", "f9", "r98;f2"};
        for (String text : texts) {
            BraidHorns x = Situations.FULL.make();
            BraidHorns y = Situations.FULL.make();
            x.wipe();
            y.wipe();
            x.takeOut(7);
            y.takeOut(7);
            Checks.write(x, text);
            int due = 0;
            for (String order : text.split(";")) {
                checks.due("no error of " + order, call(y, order) >= 0 ? 1 : 0, 1);
                due++;
            }
            checks.due("orders of " + text, x.carryOut(), due);
            checks.same("behind " + text, x, y);
        }
    }

    private static int call(BraidHorns x, String order) {
        String[] numbers = order.substring(1).split("\\.");
        int number = Integer.parseInt(numbers[0]);
        switch (order.charAt(0)) {
            case 'c': return x.carrier(number, Integer.parseInt(numbers[1]));
            case 'x': return x.takeOut(number);
            case 'r': return x.run(number);
            case 'b': return x.snap(number);
            case 'k': return x.tie(number);
            default: return x.refill(number);
        }
    }

    private static void carryOutFirstError() {
        checks.sentence("22: up to the first one that returns an error, and empties the pad");
        String[] errors = {"c6.0", "c99.0", "c0.4", "c0.9", "c0.1", "c1.2", "x2", "x9", "r0", "b2", "b1", "k0", "k2",
            "f2", "f9"};
        for (String error : errors) {
            for (int place = 0; place <= 2; place++) {
                String[] good = {"f0", "f1"};
                String text = "c0.1;c0.0;b1";
                for (int i = 0; i < 2; i++) {
                    text += (place == i ? ";" + error : "") + ";" + good[i];
                }
                text += place == 2 ? ";" + error : "";
                BraidHorns x = pad(text);
                checks.due(text, x.carryOut(), 3 + place);
                checks.due("the pad", x.count(13), 0);
                checks.due("refills", x.count(6), 120 + 60 * place);
                checks.due("changes", x.count(14), 1);
            }
        }
    }

    private static void carryOutNone() {
        checks.sentence("22: This is a change (one, with all of them; also if none is carried out)");
        BraidHorns x = pad("x0;c0.1");
        checks.due("none", x.carryOut(), 0);
        checks.due("the pad", x.count(13), 0);
        checks.due("changes", x.count(14), 1);
        checks.due("undo", x.undo(), 0);
        checks.due("the pad stays empty", x.count(13), 0);
    }

    private static void carryOutBadText() {
        checks.sentence("22: BAD_TEXT if the pad has a fault (then it stays)");
        String[] texts = {"c0.1;q", "c0.1;", "c0.1;r", "c0.1;r100", ";", "c0.1;x0;x00"};
        for (String text : texts) {
            BraidHorns x = pad(text);
            int fault = x.fault();
            checks.due(text, x.carryOut(), BAD_TEXT);
            checks.due("no carrier", x.count(1), 0);
            checks.due("no change", x.count(14), 0);
            checks.due("the pad", x.count(13), text.length());
            checks.due("its fault", x.fault(), fault);
        }
        BraidHorns x = pad("c0.1;r");
        x.carryOut();
        x.put('7');
        checks.due("c0.1;r7", x.carryOut(), 2);
        checks.due("steps", x.count(2), 7);
    }

    private static void carryOutEmptyPad() {
        checks.sentence("22: BAD_TEXT if the pad has a fault");
        BraidHorns x = new BraidHorns();
        checks.due("a new pad", x.carryOut(), BAD_TEXT);
        x.put(Checks.word("r1"));
        x.wipe();
        checks.due("a wiped pad", x.carryOut(), BAD_TEXT);
        x.put(Checks.word("r1"));
        checks.due("r1", x.carryOut(), 1);
        checks.due("once more", x.carryOut(), BAD_TEXT);
        checks.due("changes", x.count(14), 1);
    }

    private static void carryOutFullPad() {
        checks.sentence("22: Returns how many orders were carried out");
        BraidHorns x = pad("c0.1;" + "r2;".repeat(24) + "r3");
        checks.due("the pad", x.count(13), 79);
        checks.due("orders", x.carryOut(), 26);
        checks.due("steps", x.count(2), 51);
        BraidHorns full = Situations.FULL.make();
        checks.due("the pad", full.count(13), 80);
        checks.due("orders", full.carryOut(), 27);
        checks.due("steps", full.count(2), 7 + 26);
        checks.due("a whole pad again", Checks.write(full, Situations.FULL_PAD), 80);
        checks.due("no end is broken", full.carryOut(), 0);
    }

    private static void carryOutOneChange() {
        checks.sentence("22: This is a change (one, with all of them");
        for (Situations situation : new Situations[] {Situations.FULL, Situations.MEETING, Situations.LAST_STEP}) {
            BraidHorns x = situation.make();
            BraidHorns y = situation.make();
            int changes = x.count(14);
            x.carryOut();
            y.wipe();
            checks.due("changes", x.count(14), Math.min(6, changes + 1));
            x.undo();
            int left = Math.min(5, changes);
            checks.due("changes behind undo()", x.count(14), left);
            int[] got = Checks.looks(x);
            int[] due = Checks.looks(y);
            for (int i = 0; i < due.length; i++) {
                checks.due(situation + ", look " + i, got[i], i == 14 ? left : due[i]);
            }
        }
    }

    private static void carryOutStepsNotDone() {
        checks.sentence("22: up to the first one that returns an error");
        BraidHorns x = pad("r5;c0.1;r99;r99;f0;r1");
        checks.due("run() that does no step returns none", x.carryOut(), 6);
        checks.due("steps", x.count(2), 61);
        BraidHorns last = Situations.NEAR_THE_LAST_STEP.make();
        last.wipe();
        Checks.write(last, "r97;r2;r1");
        checks.due("one step more than there can be", last.carryOut(), 1);
        checks.due("steps", last.count(2), 9998);
        Checks.write(last, "r1;r1;b0");
        checks.due("the last step", last.carryOut(), 1);
        checks.due("steps", last.count(2), 9999);
    }

    private static void carryOutTenCarriers() {
        checks.sentence("\"c\": carrier() at a horn and a notch");
        BraidHorns x = new BraidHorns();
        x.set(BraidHorns.PAIRS, 6);
        Checks.write(x, "c0.1;c1.1;c2.1;c3.1;c4.1;c5.1;c6.1;c7.1;c8.1;c9.1;c10.1;c11.1;r1");
        checks.due("an eleventh is an error", x.carryOut(), 10);
        checks.due("carriers", x.count(1), 1023);
        x.undo();
        Checks.write(x, "c11.1;c10.1;c9.1;c12.1");
        checks.due("a horn behind the last one is an error", x.carryOut(), 3);
        checks.due("the first of two digits", x.at(11, 1), 0);
    }
}
