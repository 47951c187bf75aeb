import java.util.Random;

/** Promises 1 to 24 together: runs of 512 calls of every kind, each answer compared with the model's. */
public final class AnyCallsTest {
    private static final int RUNS = 1500;
    /** An object is used for at most so many calls. */
    private static final int CALLS = 512;
    /** No step of a run makes more calls than this. */
    private static final int CALLS_OF_A_STEP = 16;
    private static final int[] WILD = {
        Integer.MIN_VALUE, Integer.MIN_VALUE + 1, -1000, -2, -1, 0, 1, 7, 8, 9, 99, 100, 101, 200, 201, 500, 501,
        4095, 4096, 1 << 30, Integer.MAX_VALUE - 1, Integer.MAX_VALUE};
    private static final String[] PIECES = {
        "hours", "nights", "notice", "trial", "Hours", "night", "x", " ", "  ", ";", ";", "0", "1", "2", "3", "7", "8",
        "20", "21", "60", "61", "007", "99999999999", "\u00ff", "\u0000", "-", "\n"};

    private final Due due;
    private final Random random;
    private final int run;
    /** Hundredths of arguments that may be anything. */
    private final int wildness;
    private final boolean eager;
    private final RoomForHelp x = new RoomForHelp();
    private final Model m = new Model();
    private int calls = 0;

    private AnyCallsTest(Due due, int run) {
        this.due = due;
        this.run = run;
        this.random = new Random(run);
        this.wildness = run % 5 == 0 ? 20 : run % 5 == 1 ? 0 : 2;
        this.eager = run % 3 == 0;
    }

    public static void main(String[] args) {
        Due due = new Due("AnyCallsTest");
        for (int run = 0; run < RUNS && !due.hasWrong(); run++) {
            AnyCallsTest test = new AnyCallsTest(due, run);
            test.go();
            due.yes("run " + run + ": all its calls", test.calls == CALLS || due.hasWrong());
        }
        due.close();
    }

    private void go() {
        if (run % 2 == 0) {
            settle();
        }
        int[] weights = new int[24];
        for (int i = 0; i < weights.length; i++) {
            weights[i] = 1 + random.nextInt(6);
        }
        // The model tries every pairing, so it is not asked too often.
        weights[5] = 1;
        weights[6] = 1;
        weights[7] = 1;
        int sum = 0;
        for (int w : weights) {
            sum += w;
        }
        for (int i = 0; calls < CALLS && !due.hasWrong(); i++) {
            int r = random.nextInt(sum);
            int which = 0;
            while (r >= weights[which]) {
                r -= weights[which];
                which++;
            }
            if (isPairing(which) && i % 8 != 0 || isRow(which) && calls > CALLS - CALLS_OF_A_STEP) {
                continue;
            }
            call(which);
        }
    }

    private static boolean isPairing(int which) {
        return which == 5 || which == 6 || which == 7;
    }

    /** A step of more calls than one: it could go beyond the last call. */
    private static boolean isRow(int which) {
        return which == 11 || which == 13 || which == 20;
    }

    /** Some homes and helpers that mostly can, so that there is something to pair. */
    private void settle() {
        int homes = 1 + random.nextInt(8);
        int helpers = 1 + random.nextInt(8);
        for (int i = 0; i < homes; i++) {
            int kind = random.nextInt(eager ? 2 : 4);
            int has = set();
            int bars = set();
            int hours = random.nextInt(10);
            is("home", x.home(kind, has, bars, hours), m.home(kind, has, bars, hours));
        }
        for (int i = 0; i < helpers; i++) {
            int has = set();
            int bars = set();
            int hours = 5 + random.nextInt(20);
            int check = random.nextInt(3) == 0 ? random.nextInt(100) : 500;
            is("helper", x.helper(has, bars, hours, check), m.helper(has, bars, hours, check));
        }
        int spread = 1 + random.nextInt(random.nextBoolean() ? 4 : 100);
        for (int home = 0; home < homes; home++) {
            for (int helper = 0; helper < helpers; helper++) {
                int v = random.nextInt(spread);
                int back = random.nextInt(spread);
                is("like", x.like(home, helper, false, v), m.like(home, helper, false, v));
                is("like", x.like(home, helper, true, back), m.like(home, helper, true, back));
            }
        }
    }

    private int set() {
        return random.nextInt(3) != 0 ? 0 : random.nextInt(4096) & random.nextInt(4096) & random.nextInt(4096);
    }

    private int pick(int low, int high) {
        if (random.nextInt(100) < wildness) {
            return random.nextBoolean() ? WILD[random.nextInt(WILD.length)] : random.nextInt();
        }
        int r = random.nextInt(40);
        if (r == 0) {
            return low;
        }
        if (r == 1) {
            return high;
        }
        return low + random.nextInt(high - low + 1);
    }

    private void is(String call, long got, long want) {
        calls++;
        due.is("run " + run + ": " + call, got, want);
    }

    private void is(String call, boolean got, boolean want) {
        is(call, got ? 1 : 0, want ? 1 : 0);
    }

    private int week() {
        return pick(Math.max(0, m.about(0) - 5), Math.min(500, m.about(0) + 1));
    }

    private void call(int which) {
        if (which < 9) {
            callOnHomes(which);
        } else if (which < 15) {
            callOnTexts(which);
        } else {
            callOnPairs(which);
        }
    }

    private void callOnHomes(int which) {
        int a = pick(0, 7);
        int b = pick(0, 7);
        switch (which) {
            case 0 -> {
                int has = random.nextBoolean() ? set() : pick(0, 4095);
                int kind = pick(0, 3);
                int hours = pick(0, 40);
                is("home", x.home(kind, has, b, hours), m.home(kind, has, b, hours));
            }
            case 1 -> {
                int has = random.nextBoolean() ? set() : pick(0, 4095);
                int hours = pick(0, 40);
                int check = pick(0, 500);
                is("helper", x.helper(has, b, hours, check), m.helper(has, b, hours, check));
            }
            case 2 -> {
                int week = random.nextBoolean() ? week() : pick(0, 500);
                is("check", x.check(a, week), m.check(a, week));
            }
            case 3 -> {
                int v = pick(0, 99);
                boolean back = random.nextBoolean();
                is("like", x.like(a, b, back, v), m.like(a, b, back, v));
            }
            case 4 -> is("why", x.why(a, b), m.why(a, b));
            case 5 -> is("best", x.best(), m.best());
            case 6 -> is("paired", x.paired(a), m.paired(a));
            case 7 -> is("likes", x.likes(), m.likes());
            default -> is("live", x.live(a, b), m.live(a, b));
        }
    }

    private void callOnTexts(int which) {
        switch (which) {
            case 9 -> {
                int n = eager ? pick(1, 4) : pick(1, random.nextInt(10) == 0 ? 100 : 12);
                is("weeks", x.weeks(n), m.weeks(n));
            }
            case 10 -> {
                int[] w = {random.nextInt(), random.nextInt(), 0x20202020, 0x68203B35, random.nextInt()};
                is("feed", x.feed(w[0], w[1], w[2], w[3], w[4]), m.feed(w[0], w[1], w[2], w[3], w[4]));
            }
            case 11 -> feedText();
            case 12 -> {
                int n = pick(0, 200);
                is("end", x.end(n), m.end(n));
            }
            case 13 -> {
                is("agreement", x.agreement(), m.agreement());
                is("fault(0)", x.fault(0), m.fault(0));
                is("fault(1)", x.fault(1), m.fault(1));
                for (int what = 10; what < 14; what++) {
                    is("about", x.about(what), m.about(what));
                }
            }
            default -> {
                int what = pick(0, 2);
                is("fault", x.fault(what), m.fault(what));
            }
        }
    }

    private void feedText() {
        StringBuilder text = new StringBuilder();
        boolean sound = random.nextInt(3) != 0;
        int pieces = random.nextInt(7);
        for (int i = 0; i < pieces; i++) {
            if (sound) {
                int word = random.nextInt(4);
                text.append(PIECES[word]).append(" ".repeat(random.nextInt(3)));
                text.append(random.nextInt(word == 0 ? 63 : word == 1 ? 9 : 22)).append(random.nextInt(20) == 0 ? "" : ";");
            } else {
                text.append(PIECES[random.nextInt(PIECES.length)]);
            }
        }
        String t = text.toString();
        if (random.nextInt(4) != 0) {
            is("end", x.end(0), m.end(0));
        }
        int before = m.about(5);
        for (int at = 0; at < t.length(); at += 20) {
            int[] w = new int[5];
            for (int i = 0; i < 5; i++) {
                w[i] = Due.word(t, at + 4 * i);
            }
            is("feed", x.feed(w[0], w[1], w[2], w[3], w[4]), m.feed(w[0], w[1], w[2], w[3], w[4]));
        }
        is("end", x.end(before + t.length()), m.end(before + t.length()));
    }

    private void callOnPairs(int which) {
        int home = pick(0, 7);
        int kind = pick(0, 3);
        switch (which) {
            case 15 -> {
                int week = week();
                int hours = pick(-1, 60);
                int nights = pick(-1, 7);
                is("report", x.report(home, week, hours, nights), m.report(home, week, hours, nights));
            }
            case 16 -> {
                int week = week();
                is("judge", x.judge(home, week), m.judge(home, week));
            }
            case 17 -> {
                int what = pick(0, 2);
                is("judged", x.judged(home, what), m.judged(home, what));
            }
            case 18 -> is("notice", x.notice(home), m.notice(home));
            case 19 -> {
                int what = pick(0, 6);
                is("homeOf", x.homeOf(home, what), m.homeOf(home, what));
            }
            case 20 -> {
                int w = random.nextBoolean() ? pick(0, 20) : pick(0, 500);
                is("share", x.share(kind, w, false), m.share(kind, w, false));
                is("share", x.share(kind, w, true), m.share(kind, w, true));
            }
            case 21 -> {
                int p = pick(1, 100);
                is("until", x.until(kind, p), m.until(kind, p));
            }
            case 22 -> {
                int what = pick(0, 2);
                is("lasting", x.lasting(kind, what), m.lasting(kind, what));
            }
            default -> {
                int what = pick(0, 14);
                is("about", x.about(what), m.about(what));
            }
        }
    }
}
