/** Promises 10, 11, 19 and 20: live, weeks, notice, homeOf. */
public final class LivingTest {
    private static final int MIN = Integer.MIN_VALUE;
    private static final int MAX = Integer.MAX_VALUE;
    private static final Due due = new Due("LivingTest");

    public static void main(String[] args) {
        live();
        liveOnlyIfTheyCan();
        sixteenOfAKind();
        weeks();
        endsOnTheWay();
        notice();
        noticeInTrial();
        noticeWithoutDelay();
        noticeBeyondTheLastWeek();
        homeOf();
        agreementOfThen();
        due.close();
    }

    private static void live() {
        RoomForHelp x = Due.open(2, 2);
        for (int n : new int[] {-1, 2, 8, MIN, MAX}) {
            due.no("no such home", x.live(n, 0));
            due.no("no such helper", x.live(0, n));
        }
        due.is("nobody lives", x.about(3), 0);
        due.yes("live", x.live(0, 1));
        due.no("the home isn't free", x.live(0, 0));
        due.no("the helper isn't free", x.live(1, 1));
        due.no("neither is free", x.live(0, 1));
        due.is("one pair lives", x.about(3), 1);
        due.yes("the others", x.live(1, 0));
        due.is("two pairs live", x.about(3), 2);
        due.is("pairs of the kind", x.lasting(0, 0), 2);
    }

    private static void liveOnlyIfTheyCan() {
        RoomForHelp x = new RoomForHelp();
        x.home(2, 1, 2, 5);
        x.helper(2, 0, 5, 500);
        x.helper(0, 1, 5, 500);
        x.helper(0, 0, 4, 500);
        x.helper(0, 0, 5, 0);
        x.weeks(1);
        for (int helper = 0; helper < 4; helper++) {
            due.no("they can't", x.live(0, helper));
        }
        due.is("no pair", x.lasting(2, 0), 0);
        x.check(3, 1);
        due.yes("they can", x.live(0, 3));
        x.weeks(1);
        due.is("a pair goes on when the check is over", x.homeOf(0, 1), 3);
    }

    private static void sixteenOfAKind() {
        RoomForHelp x = new RoomForHelp();
        x.home(1, 0, 0, 0);
        x.home(1, 0, 0, 0);
        x.home(2, 0, 0, 0);
        x.helper(0, 0, 0, 500);
        Due.feed(x, "notice 0;");
        x.agreement();
        for (int i = 0; i < 16; i++) {
            due.yes("live", x.live(i % 2, 0));
            due.is("notice", x.notice(i % 2), 0);
        }
        due.no("a seventeenth of the kind", x.live(0, 0));
        due.no("a seventeenth in the other home", x.live(1, 0));
        due.is("pairs of the kind", x.lasting(1, 0), 16);
        due.is("those that ended", x.lasting(1, 1), 16);
        due.is("the home stays free", x.homeOf(0, 1), -1);
        due.yes("one of another kind", x.live(2, 0));
    }

    private static void weeks() {
        RoomForHelp x = new RoomForHelp();
        for (int n : new int[] {0, -1, 101, MIN, MAX}) {
            due.is("weeks(" + n + ")", x.weeks(n), -1);
            due.is("the clock", x.about(0), 0);
        }
        due.is("weeks(1)", x.weeks(1), 0);
        for (int i = 1; i <= 4; i++) {
            due.is("weeks(100)", x.weeks(100), 0);
        }
        due.is("beyond 500", x.weeks(100), -1);
        due.is("the clock", x.about(0), 401);
        due.is("weeks(99)", x.weeks(99), 0);
        due.is("the clock", x.about(0), 500);
        due.is("beyond 500", x.weeks(1), -1);
        due.is("the clock", x.about(0), 500);
    }

    private static void endsOnTheWay() {
        RoomForHelp x = Due.open(4, 4);
        for (int i = 0; i < 4; i++) {
            x.live(i, i);
        }
        x.notice(0);
        x.weeks(1);
        due.is("notice", x.notice(1), 3);
        due.is("notice", x.notice(3), 3);
        due.is("still living", x.about(3), 4);
        due.is("the first one ends", x.weeks(1), 1);
        due.is("three live", x.about(3), 3);
        due.is("two end on the way", x.weeks(50), 2);
        due.is("one lives", x.about(3), 1);
        due.is("three ended", x.lasting(0, 1), 3);
        due.is("none is told twice", x.weeks(1), 0);
        due.is("their END counts, not the clock", x.until(0, 26), 3);
        due.yes("both are free again", x.live(1, 3));
    }

    private static void notice() {
        RoomForHelp x = Due.open(2, 2);
        for (int n : new int[] {-1, 2, 8, MIN, MAX}) {
            due.is("no such home", x.notice(n), -1);
        }
        due.is("nobody lives there", x.notice(0), -1);
        x.weeks(5);
        x.live(0, 0);
        due.is("notice without a clause: 2", x.notice(0), 7);
        due.is("it was given", x.notice(0), -1);
        due.is("END", x.homeOf(0, 3), 7);
        due.is("not yet", x.weeks(1), 0);
        due.is("it was given", x.notice(0), -1);
        due.is("they live apart", x.weeks(1), 1);
        due.is("nobody lives there", x.notice(0), -1);
        due.is("ended", x.lasting(0, 1), 1);
    }

    private static void noticeInTrial() {
        RoomForHelp x = Due.open(3, 3);
        Due.feed(x, "trial 4; notice 3;");
        due.is("agreement()", x.agreement(), 2);
        x.weeks(10);
        x.live(0, 0);
        x.live(1, 1);
        x.live(2, 2);
        due.is("at once", x.notice(2), 10);
        due.is("free at once", x.homeOf(2, 1), -1);
        due.yes("the helper is free too", x.live(2, 2));
        x.weeks(3);
        due.is("in the last week of the trial", x.notice(0), 13);
        due.is("ended", x.lasting(0, 1), 2);
        due.is("none ends as the clock goes on", x.weeks(1), 0);
        due.is("behind the trial", x.notice(1), 17);
        due.is("still there", x.homeOf(1, 1), 1);
        due.is("it ends", x.weeks(3), 1);
    }

    private static void noticeWithoutDelay() {
        RoomForHelp x = Due.open(1, 1);
        Due.feed(x, "notice 0;");
        x.agreement();
        x.weeks(7);
        x.live(0, 0);
        x.weeks(3);
        due.is("notice of 0 weeks", x.notice(0), 10);
        due.is("apart at once", x.homeOf(0, 1), -1);
        due.is("pairs that live", x.about(3), 0);
        due.is("ended", x.lasting(0, 1), 1);
        due.is("lasted three weeks", x.until(0, 100), 3);
    }

    private static void noticeBeyondTheLastWeek() {
        RoomForHelp x = Due.open(2, 2);
        for (int i = 0; i < 4; i++) {
            x.weeks(100);
        }
        x.weeks(98);
        x.live(0, 0);
        Due.feed(x, "trial 1;");
        x.agreement();
        x.weeks(1);
        due.is("END would be 501", x.notice(0), -1);
        due.is("none was told", x.homeOf(0, 3), -1);
        x.live(1, 1);
        due.is("in the trial there is no delay", x.notice(1), 499);
        x.live(1, 1);
        x.weeks(1);
        due.is("END would be 502", x.notice(1), -1);
        due.is("still living", x.about(3), 2);

        RoomForHelp y = Due.open(1, 1);
        for (int i = 0; i < 4; i++) {
            y.weeks(100);
        }
        y.weeks(98);
        y.live(0, 0);
        due.is("END 500", y.notice(0), 500);
        due.is("it ends there", y.weeks(2), 1);
    }

    private static void homeOf() {
        RoomForHelp x = new RoomForHelp();
        x.home(3, 0, 0, 0);
        x.helper(0, 0, 0, 500);
        x.helper(0, 0, 0, 500);
        due.is("kind", x.homeOf(0, 0), 3);
        for (int what : new int[] {1, 2, 3, 4, 5, 6, -1, MIN, MAX}) {
            due.is("of a free one, " + what, x.homeOf(0, what), -1);
        }
        Due.feed(x, "hours 12; nights 3;");
        x.agreement();
        x.weeks(6);
        x.live(0, 1);
        x.weeks(1);
        due.is("kind", x.homeOf(0, 0), 3);
        due.is("helper", x.homeOf(0, 1), 1);
        due.is("first week", x.homeOf(0, 2), 6);
        due.is("no END", x.homeOf(0, 3), -1);
        due.is("hours", x.homeOf(0, 4), 12);
        due.is("nights", x.homeOf(0, 5), 3);
        x.notice(0);
        due.is("END", x.homeOf(0, 3), 9);
        for (int what : new int[] {6, -1, MIN, MAX}) {
            due.is("no such thing, " + what, x.homeOf(0, what), -1);
        }
        for (int home : new int[] {-1, 1, 8, MIN, MAX}) {
            due.is("no such home", x.homeOf(home, 0), -1);
            due.is("no such home", x.homeOf(home, 1), -1);
        }
        x.weeks(2);
        due.is("free again", x.homeOf(0, 1), -1);
        due.is("no END of a free one", x.homeOf(0, 3), -1);
        due.is("kind", x.homeOf(0, 0), 3);
    }

    private static void agreementOfThen() {
        RoomForHelp x = Due.open(2, 2);
        Due.feed(x, "hours 5;notice 7;");
        x.agreement();
        x.live(0, 0);
        Due.feed(x, "nights 2;");
        x.agreement();
        x.live(1, 1);
        due.is("hours of then", x.homeOf(0, 4), 5);
        due.is("nights of then", x.homeOf(0, 5), 7);
        due.is("hours now", x.homeOf(1, 4), 0);
        due.is("nights now", x.homeOf(1, 5), 2);
        due.is("notice of then", x.notice(0), 7);
        due.is("notice now", x.notice(1), 2);
    }
}
