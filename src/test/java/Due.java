/** Compares answers with what is due; a test ends with close(), which exits with 1 after a wrong one. */
final class Due {
    private final String test;
    private int calls = 0;
    private int wrong = 0;

    Due(String test) {
        this.test = test;
    }

    void is(String call, long got, long want) {
        calls++;
        if (got != want) {
            wrong++;
            System.out.println(test + ": " + call + " answered " + got + ", due is " + want);
        }
    }

    void yes(String call, boolean got) {
        is(call, got ? 1 : 0, 1);
    }

    void no(String call, boolean got) {
        is(call, got ? 1 : 0, 0);
    }

    boolean hasWrong() {
        return wrong > 0;
    }

    void close() {
        System.out.println(test + ": " + calls + " answers, " + wrong + " wrong");
        if (wrong > 0 || calls == 0) {
            System.exit(1);
        }
    }

    /** Feeds a text (characters 0 to 255) to the tape, filled up with blanks and cut again. */
    static void feed(RoomForHelp x, String text) {
        int before = x.about(5);
        for (int at = 0; at < text.length(); at += 20) {
            x.feed(word(text, at), word(text, at + 4), word(text, at + 8), word(text, at + 12), word(text, at + 16));
        }
        x.end(before + text.length());
    }

    static int word(String text, int at) {
        int four = 0;
        for (int i = at; i < at + 4; i++) {
            four = (four << 8) | (i < text.length() ? text.charAt(i) : 32);
        }
        return four;
    }

    /** An object with so many homes and helpers that all can, with checks that always hold. */
    static RoomForHelp open(int homes, int helpers) {
        RoomForHelp x = new RoomForHelp();
        for (int i = 0; i < homes; i++) {
            x.home(0, 0, 0, 0);
        }
        for (int i = 0; i < helpers; i++) {
            x.helper(0, 0, 0, 500);
        }
        return x;
    }
}
