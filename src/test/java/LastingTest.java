/** Promises 21 to 24: share, until, lasting, about. */
public final class LastingTest {
    private static final int MIN = Integer.MIN_VALUE;
    private static final int MAX = Integer.MAX_VALUE;
    private static final Due due = new Due("LastingTest");

    public static void main(String[] args) {
        withoutPairs();
        endedAtOnce();
        thoseThatGoOn();
        lowestTerms();
        sixteenEndings();
        kindsAreApart();
        wrongArguments();
        about();
        due.close();
    }

    /** Homes of kind 0 whose pairs end as soon as notice is given. */
    private static RoomForHelp leaving(int pairs) {
        RoomForHelp x = Due.open(8, 8);
        Due.feed(x, "notice 0;");
        x.agreement();
        for (int i = 0; i < pairs; i++) {
            x.live(i, i);
        }
        return x;
    }

    private static void share(RoomForHelp x, int w, long upper, long lower) {
        due.is("share(0, " + w + ", false)", x.share(0, w, false), upper);
        due.is("share(0, " + w + ", true)", x.share(0, w, true), lower);
    }

    private static void withoutPairs() {
        RoomForHelp x = leaving(0);
        share(x, 0, 1, 1);
        share(x, 500, 1, 1);
        due.is("until without pairs", x.until(0, 100), -1);
        x.live(0, 0);
        x.weeks(50);
        share(x, 500, 1, 1);
        due.is("until without endings", x.until(0, 100), -1);
        due.is("pairs", x.lasting(0, 0), 1);
        due.is("ended", x.lasting(0, 1), 0);
    }

    private static void endedAtOnce() {
        RoomForHelp x = leaving(4);
        x.notice(1);
        share(x, 0, 3, 4);
        share(x, 500, 3, 4);
        due.is("until below 100", x.until(0, 100), 0);
        due.is("until below 76", x.until(0, 76), 0);
        due.is("until below 75, which 3/4 is not", x.until(0, 75), -1);
        for (int i = 0; i < 4; i++) {
            x.notice(i);
        }
        share(x, 0, 0, 1);
        due.is("until below 1", x.until(0, 1), 0);
    }

    private static void thoseThatGoOn() {
        RoomForHelp x = leaving(3);
        x.weeks(4);
        x.live(3, 3);
        x.weeks(2);
        x.notice(0);
        // Home 3's pair has gone on for 2 weeks alone, so it isn't among those at 6.
        share(x, 5, 1, 1);
        share(x, 6, 2, 3);
        x.weeks(3);
        share(x, 6, 2, 3);
        x.weeks(1);
        // Now it has gone on for 6.
        share(x, 6, 3, 4);
        due.is("until below 75", x.until(0, 75), -1);
        x.notice(3);
        share(x, 6, 1, 2);
        due.is("until below 51", x.until(0, 51), 6);
        due.is("until below 50", x.until(0, 50), -1);
        x.notice(1);
        x.weeks(5);
        share(x, 9, 1, 2);
        share(x, 10, 1, 4);
        due.is("until below 50", x.until(0, 50), 10);
        due.is("until below 26", x.until(0, 26), 10);
        due.is("until below 25", x.until(0, 25), -1);

        RoomForHelp y = Due.open(1, 1);
        y.live(0, 0);
        y.notice(0);
        y.weeks(1);
        share(y, 500, 1, 1);
        y.weeks(1);
        share(y, 1, 1, 1);
        share(y, 2, 0, 1);
    }

    private static void lowestTerms() {
        RoomForHelp x = leaving(8);
        x.notice(0);
        x.notice(1);
        share(x, 0, 3, 4);
        x.weeks(1);
        x.notice(2);
        x.notice(3);
        share(x, 1, 1, 2);
        x.weeks(1);
        x.notice(4);
        share(x, 2, 3, 8);
        share(x, 1, 1, 2);
        share(x, 0, 3, 4);
    }

    /** Sixteen pairs, ended one a week, of which some go on in between: big lower numbers. */
    private static void sixteenEndings() {
        RoomForHelp x = leaving(8);
        x.weeks(20);
        for (int i = 0; i < 8; i++) {
            x.weeks(1);
            x.notice(i);
        }
        share(x, 20, 1, 1);
        share(x, 21, 7, 8);
        share(x, 27, 1, 8);
        share(x, 28, 0, 1);
        for (int i = 0; i < 8; i++) {
            due.yes("live", x.live(i, 7 - i));
        }
        x.weeks(1);
        x.notice(0);
        share(x, 1, 15, 16);
        x.weeks(1);
        x.notice(1);
        share(x, 2, 7, 8);
        due.is("pairs", x.lasting(0, 0), 16);
        due.is("ended", x.lasting(0, 1), 10);
    }

    private static void kindsAreApart() {
        RoomForHelp x = new RoomForHelp();
        for (int kind = 0; kind < 4; kind++) {
            x.home(kind, 0, 0, 0);
            x.helper(0, 0, 0, 500);
        }
        Due.feed(x, "notice 0;");
        x.agreement();
        x.live(1, 0);
        x.live(3, 1);
        x.weeks(2);
        x.notice(3);
        int[] pairs = {0, 1, 0, 1};
        int[] ended = {0, 0, 0, 1};
        for (int kind = 0; kind < 4; kind++) {
            due.is("pairs", x.lasting(kind, 0), pairs[kind]);
            due.is("ended", x.lasting(kind, 1), ended[kind]);
            due.is("share", x.share(kind, 2, false), 1 - ended[kind]);
            due.is("until", x.until(kind, 100), ended[kind] == 1 ? 2 : -1);
        }
    }

    private static void wrongArguments() {
        RoomForHelp x = leaving(2);
        x.notice(0);
        for (int kind : new int[] {-1, 4, MIN, MAX}) {
            due.is("share of a wrong kind", x.share(kind, 0, false), -1);
            due.is("share of a wrong kind", x.share(kind, 0, true), -1);
            due.is("until of a wrong kind", x.until(kind, 100), -1);
            due.is("lasting of a wrong kind", x.lasting(kind, 0), -1);
        }
        for (int w : new int[] {-1, 501, MIN, MAX}) {
            due.is("share at a wrong week", x.share(0, w, false), -1);
            due.is("share at a wrong week", x.share(0, w, true), -1);
        }
        for (int p : new int[] {0, -1, 101, MIN, MAX}) {
            due.is("until of wrong hundredths", x.until(0, p), -1);
        }
        for (int what : new int[] {-1, 2, MIN, MAX}) {
            due.is("lasting of nothing", x.lasting(0, what), -1);
        }
    }

    private static void about() {
        RoomForHelp x = new RoomForHelp();
        x.home(0, 0, 0, 0);
        x.home(0, 0, 0, 0);
        x.helper(0, 0, 0, 3);
        x.helper(0, 0, 0, 5);
        x.helper(0, 0, 0, 0);
        Due.feed(x, "hours 1;nights 2;notice 3;trial 4;");
        due.is("bytes", x.about(5), 34);
        x.agreement();
        x.live(0, 0);
        x.live(1, 1);
        Due.feed(x, "abc");
        x.weeks(3);
        due.is("all checks hold", x.about(4), 0);
        x.weeks(1);
        due.is("clock", x.about(0), 4);
        due.is("homes", x.about(1), 2);
        due.is("helpers", x.about(2), 3);
        due.is("pairs that live", x.about(3), 2);
        due.is("one check is over", x.about(4), 1);
        x.weeks(2);
        due.is("two checks are over", x.about(4), 2);
        x.check(0, 6);
        due.is("one check is over", x.about(4), 1);
        due.is("bytes", x.about(5), 3);
        for (int what = 10; what <= 13; what++) {
            due.is("about(" + what + ")", x.about(what), what - 9);
        }
        for (int what : new int[] {-1, 6, 7, 8, 9, 14, MIN, MAX}) {
            due.is("about(" + what + ")", x.about(what), -1);
        }
        x.notice(1);
        x.weeks(3);
        due.is("the free are not counted", x.about(4), 1);
        due.is("pairs that live", x.about(3), 1);
    }
}
