/** Counts the answers that are not as due, and helps tests to fill the pad. */
final class Checks {
    private int wrong = 0;
    private int made = 0;
    private String about = "";

    /** The sentence of the document that the next answers are held against. */
    void sentence(String words) {
        about = "\"" + words + "\": ";
    }

    void due(String call, int got, int want) {
        made++;
        if (got != want) {
            wrong++;
            System.out.println(about + call + " answered " + got + ", due is " + want);
        }
    }

    /** All looks at two objects that are to be the same. */
    void same(String when, BraidHorns got, BraidHorns want) {
        int[] gotLooks = looks(got);
        int[] wantLooks = looks(want);
        for (int i = 0; i < wantLooks.length; i++) {
            due(when + ", look " + i, gotLooks[i], wantLooks[i]);
        }
    }

    /** What all calls that change nothing answer: 0 to 14 are count(0) to count(14). */
    static int[] looks(BraidHorns x) {
        int[] looks = new int[15 + 10 * 8 + 12 * 4 + 10 + 4 + 6];
        int next = 0;
        for (int what = 0; what < 15; what++) {
            looks[next++] = x.count(what);
        }
        for (int i = 0; i < 10 * 8; i++) {
            looks[next++] = x.of(i / 8, i % 8);
        }
        for (int i = 0; i < 12 * 4; i++) {
            looks[next++] = x.at(i / 4, i % 4);
        }
        for (int rank = 0; rank < 10; rank++) {
            looks[next++] = x.around(rank);
        }
        for (int what = 0; what < 4; what++) {
            looks[next++] = x.meeting(what);
        }
        for (int answer : new int[] {x.why(), x.free(), x.firstFree(), x.period(), x.lasts(), x.fault()}) {
            looks[next++] = answer;
        }
        return looks;
    }

    /** Ends the program with exit code 1 if an answer was wrong. */
    void end() {
        System.out.println(made + " answers, " + wrong + " not as due");
        if (wrong != 0) {
            System.exit(1);
        }
    }

    /** Up to 8 characters as the number that put() takes. */
    static long word(String text) {
        long word = 0;
        for (int i = 0; i < text.length(); i++) {
            word = word << 8 | text.charAt(i);
        }
        return word;
    }

    /** Appends a text of any length to the pad, and returns the last answer of put(). */
    static int write(BraidHorns horns, String text) {
        int answer = 0;
        for (int i = 0; i < text.length(); i += 8) {
            answer = horns.put(word(text.substring(i, Math.min(i + 8, text.length()))));
        }
        return answer;
    }
}
