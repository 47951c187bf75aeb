import java.util.TreeSet;

/**
 * Compares answers with what is due, each under the promise and the sentence of the document that asks for it.
 * A test ends with close(), which exits with 1 after a wrong answer.
 */
final class Due {
    private final String test;
    /** The promises that the test is for and that it has not yet named. */
    private final TreeSet<Integer> unnamed = new TreeSet<>();
    private String sentence = "";
    private int calls = 0;
    private int wrong = 0;

    Due(String test, int... promises) {
        this.test = test;
        for (int promise : promises) {
            unnamed.add(promise);
        }
    }

    /** The answers that follow are due by these words of the document. */
    void promise(int number, String words) {
        unnamed.remove(number);
        sentence = "promise " + number + " (" + words + "): ";
        yes("the document says so", Document.says(number, words));
    }

    void is(String call, long got, long want) {
        calls++;
        if (got != want) {
            wrong++;
            System.out.println(test + ": " + sentence + call + " answered " + got + ", due is " + want);
        }
    }

    void yes(String call, boolean got) {
        is(call, got ? 1 : 0, 1);
    }

    void no(String call, boolean got) {
        is(call, got ? 1 : 0, 0);
    }

    boolean hasWrong() {
        return wrong > 0;
    }

    void close() {
        sentence = "";
        yes("a test for each of the promises, but for " + unnamed, unnamed.isEmpty());
        System.out.println(test + ": " + calls + " answers, " + wrong + " wrong");
        if (wrong > 0) {
            System.exit(1);
        }
    }

    /** Numbers just outside of a range, far outside, and such as would fall into it if cut to 16 bits. */
    static int[] outside(int low, int high) {
        return new int[] {low - 1, high + 1, low - 65536, low + 65536, Integer.MIN_VALUE, Integer.MAX_VALUE};
    }

    /** Feeds a text (characters 0 to 255) to the tape, filled up with blanks and cut again. */
    static void feed(RoomForHelp x, String text) {
        int before = x.about(5);
        for (int at = 0; at < text.length(); at += 20) {
            x.feed(word(text, at), word(text, at + 4), word(text, at + 8), word(text, at + 12), word(text, at + 16));
        }
        x.end(before + text.length());
    }

    static int word(String text, int at) {
        int four = 0;
        for (int i = at; i < at + 4; i++) {
            four = (four << 8) | (i < text.length() ? text.charAt(i) : 32);
        }
        return four;
    }

    /** The text becomes the agreement of an object with an empty tape. */
    static int agree(RoomForHelp x, String text) {
        feed(x, text);
        return x.agreement();
    }

    /** An object with so many homes of kind 0 and helpers that all can, with checks that always hold. */
    static RoomForHelp open(int homes, int helpers) {
        RoomForHelp x = new RoomForHelp();
        for (int i = 0; i < homes; i++) {
            x.home(0, 0, 0, 0);
        }
        for (int i = 0; i < helpers; i++) {
            x.helper(0, 0, 0, 500);
        }
        return x;
    }

    /** Any number of weeks goes by, a hundred at a time. */
    static void pass(RoomForHelp x, int weeks) {
        int left = weeks;
        while (left > 0) {
            int now = Math.min(left, 100);
            x.weeks(now);
            left -= now;
        }
    }
}
