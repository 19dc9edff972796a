/** Counts the answers that are not as due, and helps tests to fill the pad. */
final class Checks {
    private int wrong = 0;
    private int made = 0;

    void due(String call, int got, int want) {
        made++;
        if (got != want) {
            wrong++;
            System.out.println(call + " answered " + got + ", due is " + want);
        }
    }

    /** Ends the program with exit code 1 if an answer was wrong. */
    void end() {
        System.out.println(made + " answers, " + wrong + " not as due");
        if (wrong != 0) {
            System.exit(1);
        }
    }

    /** Up to 8 characters as the number that put() takes. */
    static long word(String text) {
        long word = 0;
        for (int i = 0; i < text.length(); i++) {
            word = word << 8 | text.charAt(i);
        }
        return word;
    }

    /** Appends a text of any length to the pad, and returns the last answer of put(). */
    static int write(BraidHorns horns, String text) {
        int answer = 0;
        for (int i = 0; i < text.length(); i += 8) {
            answer = horns.put(word(text.substring(i, Math.min(i + 8, text.length()))));
        }
        return answer;
    }
}
