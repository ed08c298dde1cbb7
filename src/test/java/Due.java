/** What the tests share: comparing answers with those that are due, and telling a text to a game. */
final class Due {
    private final String test;
    private int asked;
    private int wrong;

    Due(String itsTest) {
        test = itsTest;
    }

    void is(String call, long got, long want) {
        asked++;
        if (got != want) {
            wrong++;
            System.out.println(test + ": " + call + " answered " + got + ", due is " + want);
        }
    }

    void is(String call, boolean got, boolean want) {
        is(call, got ? 1 : 0, want ? 1 : 0);
    }

    int wrong() {
        return wrong;
    }

    int asked() {
        return asked;
    }

    /** Ends the test's program, with exit code 1 if an answer was wrong. */
    void finish() {
        System.out.println(test + ": " + asked + " answers, " + wrong + " wrong");
        if (wrong != 0 || asked == 0) {
            System.exit(1);
        }
    }

    /** The n-th four bytes of a text, blanks behind its end. */
    static int four(String text, int n) {
        int bytes = 0;
        for (int i = 4 * n; i < 4 * n + 4; i++) {
            bytes = bytes << 8 | (i < text.length() ? text.charAt(i) : ' ');
        }
        return bytes;
    }

    /** Puts a text on the tape, which must be empty. */
    static void tape(GameOfNoes game, String text) {
        for (int n = 0; 4 * n < text.length(); n += 5) {
            game.feed(four(text, n), four(text, n + 1), four(text, n + 2), four(text, n + 3), four(text, n + 4));
        }
        game.end(text.length());
    }

    static int tell(GameOfNoes game, String text) {
        tape(game, text);
        return game.text();
    }
}
