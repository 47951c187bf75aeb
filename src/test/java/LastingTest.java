/** Promises 21 to 24: share, until, lasting, about. */
public final class LastingTest {
    private static final Due due = new Due("LastingTest", 21, 22, 23, 24);

    public static void main(String[] args) {
        withoutPairs();
        upToW();
        endedAtOnce();
        endedInTheLastWeek();
        thoseThatGoOn();
        noticeIsNoEnding();
        lowestTerms();
        sixteenPairs();
        sixteenEndings();
        otherShares();
        belowAndNotEqual();
        hundredthsAtTheEnds();
        otherHundredths();
        kindsAreApart();
        liveOrLived();
        otherLasting();
        clockAtTheEnds();
        homesAndHelpers();
        pairsThatLive();
        checksThatDontHold();
        bytesAndAgreement();
        otherAbout();
        due.close();
    }

    /** Homes of kind 0 whose pairs end as soon as notice is given. */
    private static RoomForHelp leaving(int pairs) {
        RoomForHelp x = Due.open(8, 8);
        Due.agree(x, "notice 0;");
        for (int i = 0; i < pairs; i++) {
            x.live(i, i);
        }
        return x;
    }

    private static void share(RoomForHelp x, int w, long upper, long lower) {
        due.is("share(0, " + w + ", false)", x.share(0, w, false), upper);
        due.is("share(0, " + w + ", true)", x.share(0, w, true), lower);
    }

    // ---- promise 21

    private static void withoutPairs() {
        due.promise(21, "with LASTED t or more (1 without), as a fraction in lowest terms");
        RoomForHelp x = leaving(0);
        share(x, 0, 1, 1);
        share(x, 500, 1, 1);
        x.live(0, 0);
        share(x, 0, 1, 1);
        x.weeks(50);
        share(x, 0, 1, 1);
        share(x, 50, 1, 1);
        share(x, 500, 1, 1);
    }

    private static void upToW() {
        due.promise(21, "the product, over all WEEKS t up to w at which some ENDED");
        RoomForHelp x = leaving(5);
        x.weeks(3);
        x.notice(0);
        x.weeks(4);
        x.notice(1);
        x.notice(2);
        share(x, 0, 1, 1);
        share(x, 2, 1, 1);
        share(x, 3, 4, 5);
        share(x, 6, 4, 5);
        share(x, 7, 2, 5);
        share(x, 500, 2, 5);
    }

    private static void endedAtOnce() {
        due.promise(21, "SHARE of a KIND at w (0 .. 500): its upper number (lower false), its lower one.");
        RoomForHelp x = leaving(4);
        x.notice(1);
        share(x, 0, 3, 4);
        share(x, 500, 3, 4);
        for (int i = 0; i < 4; i++) {
            x.notice(i);
        }
        share(x, 0, 0, 1);
        share(x, 500, 0, 1);
    }

    private static void endedInTheLastWeek() {
        due.promise(21, "SHARE of a KIND at w (0 .. 500): its upper number (lower false), its lower one.");
        RoomForHelp x = leaving(2);
        Due.pass(x, 500);
        share(x, 500, 1, 1);
        x.notice(1);
        share(x, 499, 1, 1);
        share(x, 500, 1, 2);
        due.is("until below 51", x.until(0, 51), 500);
        due.is("until below 50", x.until(0, 50), -1);
        x.notice(0);
        share(x, 499, 1, 1);
        share(x, 500, 0, 1);
        due.is("until below 1", x.until(0, 1), 500);
    }

    private static void thoseThatGoOn() {
        due.promise(21, "those that still go on (LASTED: the clock's WEEK less the first one)");
        RoomForHelp x = leaving(3);
        x.weeks(4);
        x.live(3, 3);
        x.weeks(2);
        x.notice(0);
        // Home 3's pair has gone on for 2 weeks alone, so it isn't among those at 6.
        share(x, 5, 1, 1);
        share(x, 6, 2, 3);
        x.weeks(3);
        share(x, 6, 2, 3);
        x.weeks(1);
        // Now it has gone on for 6.
        share(x, 6, 3, 4);
        x.notice(3);
        share(x, 6, 1, 2);
        x.notice(1);
        x.weeks(5);
        share(x, 9, 1, 2);
        share(x, 10, 1, 4);
    }

    private static void noticeIsNoEnding() {
        due.promise(21, "those that ENDED, and those that still go on");
        RoomForHelp y = Due.open(1, 1);
        y.live(0, 0);
        y.notice(0);
        y.weeks(1);
        share(y, 500, 1, 1);
        y.weeks(1);
        share(y, 1, 1, 1);
        share(y, 2, 0, 1);
    }

    private static void lowestTerms() {
        due.promise(21, "as a fraction in lowest terms");
        RoomForHelp x = leaving(8);
        x.notice(0);
        x.notice(1);
        share(x, 0, 3, 4);
        x.weeks(1);
        x.notice(2);
        x.notice(3);
        share(x, 1, 1, 2);
        x.weeks(1);
        x.notice(4);
        share(x, 2, 3, 8);
        share(x, 1, 1, 2);
        share(x, 0, 3, 4);
    }

    /** Those that ended lasted 1, 3 .. 15 weeks, those that go on 2, 4 .. 16. */
    private static RoomForHelp sixteenByTurns() {
        RoomForHelp x = leaving(8);
        x.weeks(1);
        for (int i = 0; i < 8; i++) {
            x.notice(i);
            x.weeks(2);
        }
        for (int i = 0; i < 8; i++) {
            due.yes("live", x.live(i, i));
            x.weeks(2);
        }
        due.no("a seventeenth", x.live(0, 0));
        return x;
    }

    private static void sixteenPairs() {
        due.promise(21, "over all pairs of HOMES of that KIND that live or lived, 16 at most");
        RoomForHelp x = sixteenByTurns();
        due.is("pairs", x.lasting(0, 0), 16);
        due.is("ended", x.lasting(0, 1), 8);
        share(x, 0, 1, 1);
        share(x, 1, 15, 16);
        share(x, 2, 15, 16);
        share(x, 3, 195, 224);
        share(x, 5, 715, 896);
        share(x, 13, 6435, 16384);
        share(x, 15, 6435, 32768);
        share(x, 500, 6435, 32768);
    }

    private static void sixteenEndings() {
        due.promise(21, "over all pairs of HOMES of that KIND that live or lived, 16 at most");
        RoomForHelp x = leaving(8);
        for (int i = 0; i < 8; i++) {
            x.weeks(1);
            x.notice(i);
        }
        for (int i = 0; i < 8; i++) {
            x.live(i, i);
        }
        x.weeks(8);
        for (int i = 0; i < 8; i++) {
            x.weeks(1);
            x.notice(i);
        }
        due.is("ended", x.lasting(0, 1), 16);
        // One ends each week, so what is left is a sixteenth less each.
        share(x, 1, 15, 16);
        share(x, 2, 7, 8);
        share(x, 9, 7, 16);
        share(x, 15, 1, 16);
        share(x, 16, 0, 1);
        due.is("1/16 is below 7", x.until(0, 7), 15);
        due.is("1/16 isn't below 6", x.until(0, 6), 16);
    }

    private static void otherShares() {
        due.promise(21, "NONE for others.");
        RoomForHelp x = leaving(2);
        x.notice(0);
        for (int kind : Due.outside(0, 3)) {
            due.is("kind " + kind, x.share(kind, 0, false), -1);
            due.is("kind " + kind, x.share(kind, 0, true), -1);
        }
        for (int w : Due.outside(0, 500)) {
            due.is("at " + w, x.share(0, w, false), -1);
            due.is("at " + w, x.share(0, w, true), -1);
        }
        due.is("the last kind", x.share(3, 500, true), 1);
    }

    // ---- promise 22

    private static void belowAndNotEqual() {
        due.promise(22, "The least w (0 .. 500) with a SHARE below p hundredths (1 .. 100).");
        RoomForHelp x = leaving(4);
        due.is("nothing is below 100", x.until(0, 100), -1);
        x.notice(0);
        due.is("3/4 is below 100", x.until(0, 100), 0);
        due.is("3/4 is below 76", x.until(0, 76), 0);
        due.is("3/4 isn't below 75", x.until(0, 75), -1);
        x.weeks(6);
        x.notice(1);
        due.is("1/2 is below 75", x.until(0, 75), 6);
        due.is("1/2 is below 51", x.until(0, 51), 6);
        due.is("1/2 isn't below 50", x.until(0, 50), -1);
        x.weeks(1);
        x.notice(2);
        due.is("1/4 is below 50", x.until(0, 50), 7);
        due.is("1/4 is below 26", x.until(0, 26), 7);
        due.is("1/4 isn't below 25", x.until(0, 25), -1);
        due.is("the first ones stay", x.until(0, 76), 0);
        RoomForHelp y = sixteenByTurns();
        due.is("15/16 is below 94", y.until(0, 94), 1);
        due.is("15/16 isn't below 93", y.until(0, 93), 3);
        due.is("6435/32768 is below 20", y.until(0, 20), 15);
        due.is("6435/32768 isn't below 19", y.until(0, 19), -1);
    }

    private static void hundredthsAtTheEnds() {
        due.promise(22, "NONE: none is, and for others.");
        RoomForHelp x = leaving(0);
        due.is("100 without pairs", x.until(0, 100), -1);
        due.is("1 without pairs", x.until(0, 1), -1);
        x.live(0, 0);
        x.weeks(4);
        due.is("100 without endings", x.until(0, 100), -1);
        x.notice(0);
        due.is("100 with nothing left", x.until(0, 100), 4);
        due.is("1 with nothing left", x.until(0, 1), 4);
    }

    private static void otherHundredths() {
        due.promise(22, "NONE: none is, and for others.");
        RoomForHelp x = leaving(1);
        x.notice(0);
        for (int p : Due.outside(1, 100)) {
            due.is("below " + p, x.until(0, p), -1);
        }
        for (int kind : Due.outside(0, 3)) {
            due.is("kind " + kind, x.until(kind, 100), -1);
        }
    }

    // ---- promise 23

    private static void kindsAreApart() {
        due.promise(23, "LASTING of a KIND: over all pairs of HOMES of that KIND that live or lived");
        RoomForHelp x = new RoomForHelp();
        for (int kind = 0; kind < 4; kind++) {
            x.home(kind, 0, 0, 0);
            x.helper(0, 0, 0, 500);
        }
        Due.agree(x, "notice 0;");
        x.live(1, 0);
        x.live(3, 1);
        x.weeks(2);
        x.notice(3);
        int[] pairs = {0, 1, 0, 1};
        int[] ended = {0, 0, 0, 1};
        for (int kind = 0; kind < 4; kind++) {
            due.is("pairs", x.lasting(kind, 0), pairs[kind]);
            due.is("ended", x.lasting(kind, 1), ended[kind]);
            due.is("share", x.share(kind, 2, false), 1 - ended[kind]);
            due.is("until", x.until(kind, 100), ended[kind] == 1 ? 2 : -1);
        }
    }

    private static void liveOrLived() {
        due.promise(23, "Of a KIND: 0 pairs that live or lived, 1 those that ENDED.");
        RoomForHelp x = Due.open(2, 2);
        due.is("no pairs", x.lasting(0, 0), 0);
        x.live(0, 0);
        due.is("a pair", x.lasting(0, 0), 1);
        x.notice(0);
        x.weeks(1);
        due.is("none ended ahead of the END", x.lasting(0, 1), 0);
        x.weeks(1);
        due.is("one that lived", x.lasting(0, 0), 1);
        due.is("one ended", x.lasting(0, 1), 1);
        x.live(0, 0);
        due.is("the same two are another pair", x.lasting(0, 0), 2);
        due.is("one ended", x.lasting(0, 1), 1);
    }

    private static void otherLasting() {
        due.promise(23, "NONE for others.");
        RoomForHelp x = leaving(1);
        for (int kind : Due.outside(0, 3)) {
            due.is("kind " + kind, x.lasting(kind, 0), -1);
            due.is("kind " + kind, x.lasting(kind, 1), -1);
        }
        for (int what : Due.outside(0, 1)) {
            due.is("lasting(0, " + what + ")", x.lasting(0, what), -1);
        }
    }

    // ---- promise 24

    private static void clockAtTheEnds() {
        due.promise(24, "0 the clock's WEEK");
        RoomForHelp x = new RoomForHelp();
        due.is("at first", x.about(0), 0);
        Due.pass(x, 500);
        due.is("at last", x.about(0), 500);
    }

    private static void homesAndHelpers() {
        due.promise(24, "1 HOMES, 2 HELPERS");
        RoomForHelp x = Due.open(8, 7);
        due.is("homes", x.about(1), 8);
        due.is("helpers", x.about(2), 7);
        x.live(0, 0);
        due.is("those that live too", x.about(1), 8);
        due.is("those that live too", x.about(2), 7);
    }

    private static void pairsThatLive() {
        due.promise(24, "3 pairs that live");
        RoomForHelp x = Due.open(8, 8);
        for (int i = 0; i < 8; i++) {
            due.is("pairs", x.about(3), i);
            x.live(i, i);
        }
        due.is("all eight", x.about(3), 8);
        x.notice(7);
        x.weeks(1);
        due.is("notice alone is no end", x.about(3), 8);
        x.weeks(1);
        due.is("the END is", x.about(3), 7);
    }

    private static void checksThatDontHold() {
        due.promise(24, "4 CHECKS of HELPERS that live with somebody and don't hold in the clock's WEEK");
        RoomForHelp x = Due.open(2, 3);
        x.check(0, 3);
        x.check(1, 5);
        x.check(2, 0);
        x.live(0, 0);
        x.live(1, 1);
        due.is("all hold in week 0", x.about(4), 0);
        x.weeks(3);
        due.is("one in its last week, and one that is free", x.about(4), 0);
        x.weeks(1);
        due.is("one is over", x.about(4), 1);
        x.weeks(2);
        due.is("two are over", x.about(4), 2);
        x.check(0, 6);
        due.is("one is over", x.about(4), 1);
        x.check(0, 5);
        due.is("two are over", x.about(4), 2);
        x.notice(1);
        x.weeks(2);
        due.is("the free are not counted", x.about(4), 1);
    }

    private static void bytesAndAgreement() {
        due.promise(24, "5 bytes of the tape, 10 hours, 11 nights, 12 notice, 13 trial of THE AGREEMENT.");
        RoomForHelp x = Due.open(1, 1);
        Due.agree(x, "hours 60;nights 0;notice 20;trial 19;");
        x.live(0, 0);
        Due.feed(x, "hours 1;nights 2;notice 3;trial 4;");
        due.is("bytes", x.about(5), 34);
        due.is("hours", x.about(10), 60);
        due.is("nights", x.about(11), 0);
        due.is("notice", x.about(12), 20);
        due.is("trial", x.about(13), 19);
        x.agreement();
        due.is("bytes", x.about(5), 0);
        for (int what = 10; what <= 13; what++) {
            due.is("about(" + what + "), of pairs to come", x.about(what), what - 9);
        }
    }

    private static void otherAbout() {
        due.promise(24, "NONE for others.");
        RoomForHelp x = leaving(1);
        for (int what = 6; what <= 9; what++) {
            due.is("about(" + what + ")", x.about(what), -1);
        }
        for (int what : Due.outside(0, 13)) {
            due.is("about(" + what + ")", x.about(what), -1);
        }
    }
}
