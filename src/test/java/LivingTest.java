/** Promises 10, 11, 19 and 20: live, weeks, notice, homeOf. */
public final class LivingTest {
    private static final Due due = new Due("LivingTest", 10, 11, 19, 20);

    public static void main(String[] args) {
        livingOfTheLastOnes();
        liveOfNoSuchOnes();
        liveOnlyIfBothAreFree();
        liveOnlyIfTheyCan();
        liveInTheLastWeek();
        agreementOfThen();
        sixteenOfAKind();
        sixteenWithThoseThatLive();
        weeksAtTheEnds();
        weeksBeyondTheLast();
        otherWeeksEndNothing();
        endsOnTheWay();
        endAtTheEndItself();
        notice();
        noticeWasGiven();
        noticeAtTheEnds();
        noticeInTrial();
        trialAtTheEnds();
        noticeWithoutDelay();
        noticeBeyondTheLastWeek();
        noticeInTheLastWeek();
        homeOfAFreeOne();
        homeOfAPair();
        homeOfOthers();
        due.close();
    }

    // ---- promise 10

    private static void livingOfTheLastOnes() {
        due.promise(10, "LIVING: true.");
        RoomForHelp x = Due.open(8, 8);
        for (int i = 0; i < 8; i++) {
            due.yes("live", x.live(i, 7 - i));
            due.is("pairs that live", x.about(3), i + 1);
            due.is("the helper", x.homeOf(i, 1), 7 - i);
            due.is("pairs of the kind", x.lasting(0, 0), i + 1);
        }
    }

    private static void liveOfNoSuchOnes() {
        due.promise(10, "False: others, or there are 16 pairs of that KIND that live or lived.");
        RoomForHelp x = Due.open(2, 3);
        for (int home : Due.outside(0, 1)) {
            due.no("no home " + home, x.live(home, 0));
        }
        for (int helper : Due.outside(0, 2)) {
            due.no("no helper " + helper, x.live(0, helper));
        }
        due.is("nobody lives", x.about(3), 0);
        due.is("nobody lived", x.lasting(0, 0), 0);
        due.yes("they are free", x.live(0, 0));
    }

    private static void liveOnlyIfBothAreFree() {
        due.promise(10, "LIVING: a HOME and a HELPER, both free, that CAN, from the clock's WEEK on");
        RoomForHelp x = Due.open(2, 2);
        x.live(0, 1);
        x.report(0, 0, 0, 0);
        due.no("the home isn't free", x.live(0, 0));
        due.no("the helper isn't free", x.live(1, 1));
        due.no("neither is free", x.live(0, 1));
        due.is("one pair lives", x.about(3), 1);
        due.is("one pair of the kind", x.lasting(0, 0), 1);
        due.is("its helper", x.homeOf(0, 1), 1);
        due.is("the other home is free", x.homeOf(1, 1), -1);
        due.is("its report stands", x.judge(0, 0), 0);
        x.notice(0);
        x.weeks(1);
        due.no("notice doesn't free them ahead of the END", x.live(0, 0));
        x.weeks(1);
        due.yes("the END does", x.live(0, 0));
        due.yes("the helper too", x.live(1, 1));
    }

    private static void liveOnlyIfTheyCan() {
        due.promise(10, "LIVING: a HOME and a HELPER, both free, that CAN, from the clock's WEEK on");
        RoomForHelp x = new RoomForHelp();
        x.home(2, 1, 2, 5);
        x.helper(2, 0, 5, 500);
        x.helper(0, 1, 5, 500);
        x.helper(0, 0, 4, 500);
        x.helper(0, 0, 5, 0);
        x.weeks(1);
        for (int helper = 0; helper < 4; helper++) {
            due.no("they can't", x.live(0, helper));
            due.is("the home stays free", x.homeOf(0, 1), -1);
        }
        due.is("no pair", x.lasting(2, 0), 0);
        x.check(3, 1);
        due.yes("they can", x.live(0, 3));
        x.weeks(1);
        due.is("a pair goes on when the check is over", x.homeOf(0, 1), 3);
    }

    private static void liveInTheLastWeek() {
        due.promise(10, "LIVING: a HOME and a HELPER, both free, that CAN, from the clock's WEEK on");
        RoomForHelp x = Due.open(2, 2);
        due.yes("in week 0", x.live(0, 0));
        Due.pass(x, 500);
        due.yes("in week 500", x.live(1, 1));
        due.is("from 0 on", x.homeOf(0, 2), 0);
        due.is("from 500 on", x.homeOf(1, 2), 500);
        due.is("one week of it", x.judged(1, 2), 1);
    }

    private static void agreementOfThen() {
        due.promise(10, "by THE AGREEMENT of then");
        RoomForHelp x = Due.open(2, 2);
        Due.agree(x, "hours 5;notice 7;");
        x.live(0, 0);
        Due.agree(x, "nights 2;");
        x.live(1, 1);
        due.is("a fault", Due.agree(x, "hours 9;nights 9;"), -1);
        due.is("hours of then", x.homeOf(0, 4), 5);
        due.is("nights of then", x.homeOf(0, 5), 7);
        due.is("hours now", x.homeOf(1, 4), 0);
        due.is("nights now", x.homeOf(1, 5), 2);
        due.is("notice of then", x.notice(0), 7);
        due.is("notice now", x.notice(1), 2);
    }

    private static void sixteenOfAKind() {
        due.promise(10, "or there are 16 pairs of that KIND that live or lived");
        RoomForHelp x = new RoomForHelp();
        x.home(1, 0, 0, 0);
        x.home(1, 0, 0, 0);
        x.home(2, 0, 0, 0);
        x.helper(0, 0, 0, 500);
        Due.agree(x, "notice 0;");
        for (int i = 0; i < 16; i++) {
            due.yes("live", x.live(i % 2, 0));
            due.is("notice", x.notice(i % 2), 0);
        }
        due.no("a seventeenth of the kind", x.live(0, 0));
        due.no("a seventeenth in the other home", x.live(1, 0));
        due.is("pairs of the kind", x.lasting(1, 0), 16);
        due.is("those that ended", x.lasting(1, 1), 16);
        due.is("the home stays free", x.homeOf(0, 1), -1);
        due.is("nobody lives", x.about(3), 0);
        due.yes("one of another kind", x.live(2, 0));
    }

    private static void sixteenWithThoseThatLive() {
        due.promise(10, "or there are 16 pairs of that KIND that live or lived");
        RoomForHelp x = Due.open(8, 8);
        Due.agree(x, "notice 0;");
        for (int i = 0; i < 8; i++) {
            x.live(i, i);
        }
        for (int i = 0; i < 8; i++) {
            x.notice(0);
            due.yes("live", x.live(0, 0));
        }
        due.is("pairs of the kind", x.lasting(0, 0), 16);
        due.is("those that ended", x.lasting(0, 1), 8);
        due.is("the last can leave", x.notice(0), 0);
        due.no("but not come back", x.live(0, 0));
        due.is("seven live", x.about(3), 7);
    }

    // ---- promise 11

    private static void weeksAtTheEnds() {
        due.promise(11, "n WEEKS go by (1 .. 100)");
        RoomForHelp x = new RoomForHelp();
        for (int n : Due.outside(1, 100)) {
            due.is("weeks(" + n + ")", x.weeks(n), -1);
            due.is("the clock", x.about(0), 0);
        }
        due.is("weeks(1)", x.weeks(1), 0);
        due.is("the clock", x.about(0), 1);
        due.is("weeks(100)", x.weeks(100), 0);
        due.is("the clock", x.about(0), 101);
    }

    private static void weeksBeyondTheLast() {
        due.promise(11, "NONE for others, or beyond 500.");
        RoomForHelp x = new RoomForHelp();
        Due.pass(x, 401);
        due.is("to 501", x.weeks(100), -1);
        due.is("the clock", x.about(0), 401);
        due.is("to 500", x.weeks(99), 0);
        due.is("the clock", x.about(0), 500);
        due.is("beyond 500", x.weeks(1), -1);
        for (int n : Due.outside(1, 100)) {
            due.is("weeks(" + n + ")", x.weeks(n), -1);
        }
        due.is("the clock", x.about(0), 500);
        RoomForHelp y = new RoomForHelp();
        Due.pass(y, 400);
        due.is("a hundred to 500", y.weeks(100), 0);
        due.is("the clock", y.about(0), 500);
    }

    private static void otherWeeksEndNothing() {
        due.promise(11, "NONE for others, or beyond 500.");
        RoomForHelp x = Due.open(1, 1);
        Due.pass(x, 490);
        x.live(0, 0);
        due.is("notice", x.notice(0), 492);
        due.is("beyond 500", x.weeks(11), -1);
        due.is("a hundred and one", x.weeks(101), -1);
        due.is("none", x.weeks(0), -1);
        due.is("the clock", x.about(0), 490);
        due.is("they still live", x.homeOf(0, 1), 0);
        due.is("none ended", x.lasting(0, 1), 0);
        due.is("to 500", x.weeks(10), 1);
    }

    private static void endsOnTheWay() {
        due.promise(11, "how many pairs ENDED");
        RoomForHelp x = Due.open(4, 4);
        for (int i = 0; i < 4; i++) {
            x.live(i, i);
        }
        x.notice(0);
        x.weeks(1);
        due.is("notice", x.notice(1), 3);
        due.is("notice", x.notice(3), 3);
        due.is("still living", x.about(3), 4);
        due.is("the first one ends", x.weeks(1), 1);
        due.is("three live", x.about(3), 3);
        due.is("two end on the way", x.weeks(50), 2);
        due.is("one lives", x.about(3), 1);
        due.is("three ended", x.lasting(0, 1), 3);
        due.is("none is told twice", x.weeks(1), 0);
        due.is("their END counts, not the clock", x.until(0, 26), 3);
        due.yes("both are free again", x.live(1, 3));
        RoomForHelp y = Due.open(8, 8);
        for (int i = 0; i < 8; i++) {
            y.live(i, i);
            y.notice(i);
        }
        due.is("all eight", y.weeks(100), 8);
        due.is("nobody lives", y.about(3), 0);
    }

    private static void endAtTheEndItself() {
        due.promise(11, "As the clock comes to the END it lives apart: it has LASTED END less its first WEEK, and has "
            + "ENDED.");
        RoomForHelp x = Due.open(1, 1);
        x.weeks(3);
        x.live(0, 0);
        x.weeks(4);
        due.is("notice", x.notice(0), 9);
        due.is("a week ahead of the END", x.weeks(1), 0);
        due.is("they live", x.homeOf(0, 1), 0);
        due.is("none ended", x.lasting(0, 1), 0);
        due.is("no share is lost", x.until(0, 100), -1);
        due.is("the END", x.weeks(1), 1);
        due.is("they live apart", x.homeOf(0, 1), -1);
        due.is("one ended", x.lasting(0, 1), 1);
        due.is("it lasted 6", x.until(0, 100), 6);
        x.weeks(50);
        due.is("it lasted 6, however late it is", x.until(0, 100), 6);
    }

    // ---- promise 19

    private static void notice() {
        due.promise(19, "NONE: nobody lives there, it was given, or the END would be beyond 500.");
        RoomForHelp x = Due.open(2, 2);
        for (int home : Due.outside(0, 1)) {
            due.is("no home " + home, x.notice(home), -1);
        }
        due.is("nobody lives there", x.notice(0), -1);
        x.weeks(5);
        x.live(0, 0);
        due.is("the earlier one was refused", x.homeOf(0, 3), -1);
        due.is("notice without a clause: 2", x.notice(0), 7);
        due.is("END", x.homeOf(0, 3), 7);
        x.weeks(2);
        due.is("nobody lives there any more", x.notice(0), -1);
        x.live(0, 1);
        due.is("the next pair has none", x.homeOf(0, 3), -1);
        due.is("and can give it", x.notice(0), 9);
    }

    private static void noticeWasGiven() {
        due.promise(19, "NONE: nobody lives there, it was given, or the END would be beyond 500.");
        RoomForHelp x = Due.open(2, 2);
        Due.agree(x, "notice 3;");
        x.live(0, 0);
        x.live(1, 1);
        due.is("notice", x.notice(0), 3);
        due.is("it was given", x.notice(0), -1);
        x.weeks(2);
        due.is("it was given", x.notice(0), -1);
        due.is("the first END stands", x.homeOf(0, 3), 3);
        due.is("the other's is its own", x.notice(1), 5);
        due.is("they live apart", x.weeks(1), 1);
        due.is("the other pair lives", x.homeOf(1, 1), 1);
    }

    private static void noticeAtTheEnds() {
        due.promise(19, "the pair's END is that WEEK and notice more");
        RoomForHelp x = Due.open(1, 1);
        Due.agree(x, "notice 20;");
        x.live(0, 0);
        x.weeks(7);
        due.is("notice of 20", x.notice(0), 27);
        due.is("not yet", x.weeks(19), 0);
        due.is("now", x.weeks(1), 1);
        Due.agree(x, "notice 1;");
        x.live(0, 0);
        due.is("notice of 1", x.notice(0), 28);
        due.is("still there", x.homeOf(0, 1), 0);
        due.is("now", x.weeks(1), 1);
    }

    private static void noticeInTrial() {
        due.promise(19, "(that WEEK itself, if fewer WEEKS than trial are over since its first one)");
        RoomForHelp x = Due.open(3, 3);
        due.is("agreement()", Due.agree(x, "trial 4; notice 3;"), 2);
        x.weeks(10);
        x.live(0, 0);
        x.live(1, 1);
        x.live(2, 2);
        due.is("at once", x.notice(2), 10);
        due.is("free at once", x.homeOf(2, 1), -1);
        due.yes("the helper is free too", x.live(2, 2));
        x.weeks(3);
        due.is("in the last week of the trial", x.notice(0), 13);
        due.is("ended", x.lasting(0, 1), 2);
        due.is("none ends as the clock goes on", x.weeks(1), 0);
        due.is("behind the trial", x.notice(1), 17);
        due.is("still there", x.homeOf(1, 1), 1);
        due.is("it ends", x.weeks(3), 1);
    }

    private static void trialAtTheEnds() {
        due.promise(19, "(that WEEK itself, if fewer WEEKS than trial are over since its first one)");
        RoomForHelp x = Due.open(4, 4);
        Due.agree(x, "trial 0;");
        x.live(0, 0);
        due.is("no trial, in the first week", x.notice(0), 2);
        Due.agree(x, "trial 1;");
        x.live(1, 1);
        x.live(2, 2);
        due.is("a trial of one week, in the first", x.notice(1), 0);
        Due.agree(x, "trial 20;");
        x.live(1, 1);
        x.live(3, 3);
        x.weeks(1);
        due.is("a trial of one week, in the second", x.notice(2), 3);
        x.weeks(18);
        due.is("19 weeks of 20 are over", x.notice(1), 19);
        x.weeks(1);
        due.is("20 weeks of 20 are over", x.notice(3), 22);
    }

    private static void noticeWithoutDelay() {
        due.promise(19, "(An END that is the clock's WEEK: they live apart at once.)");
        RoomForHelp x = Due.open(1, 1);
        Due.agree(x, "notice 0;");
        x.weeks(7);
        x.live(0, 0);
        x.weeks(3);
        due.is("notice of 0 weeks", x.notice(0), 10);
        due.is("apart at once", x.homeOf(0, 1), -1);
        due.is("pairs that live", x.about(3), 0);
        due.is("ended", x.lasting(0, 1), 1);
        due.is("lasted three weeks", x.until(0, 100), 3);
        due.yes("the helper is free", x.live(0, 0));
        due.is("lasted no week", x.notice(0), 10);
        due.is("lasted no week", x.until(0, 100), 0);
        due.is("none ends once more", x.weeks(1), 0);
    }

    private static void noticeBeyondTheLastWeek() {
        due.promise(19, "or the END would be beyond 500");
        RoomForHelp x = Due.open(2, 2);
        Due.pass(x, 498);
        x.live(0, 0);
        Due.agree(x, "trial 1;");
        x.weeks(1);
        due.is("END would be 501", x.notice(0), -1);
        due.is("none was told", x.homeOf(0, 3), -1);
        x.live(1, 1);
        due.is("in the trial there is no delay", x.notice(1), 499);
        x.live(1, 1);
        x.weeks(1);
        due.is("END would be 502", x.notice(0), -1);
        due.is("END would be 502", x.notice(1), -1);
        due.is("still living", x.about(3), 2);
        due.is("one ended", x.lasting(0, 1), 1);
        RoomForHelp y = Due.open(1, 1);
        Due.pass(y, 498);
        y.live(0, 0);
        due.is("END 500", y.notice(0), 500);
        due.is("it ends there", y.weeks(2), 1);
    }

    private static void noticeInTheLastWeek() {
        due.promise(19, "or the END would be beyond 500");
        RoomForHelp x = Due.open(2, 2);
        Due.agree(x, "notice 0;");
        x.live(0, 0);
        Due.agree(x, "notice 20;trial 1;");
        Due.pass(x, 500);
        x.live(1, 1);
        due.is("a notice of 0", x.notice(0), 500);
        due.is("in the trial", x.notice(1), 500);
        due.is("nobody lives", x.about(3), 0);
        due.is("both ended", x.lasting(0, 1), 2);
    }

    // ---- promise 20

    private static void homeOfAFreeOne() {
        due.promise(20, "1 its HELPER (NONE: free), 2 the pair's first WEEK (NONE), 3 its END (NONE: none was told), "
            + "4 hours, 5 nights by its AGREEMENT (NONE of a free one).");
        RoomForHelp x = new RoomForHelp();
        x.home(3, 0, 0, 0);
        x.helper(0, 0, 0, 500);
        due.is("kind", x.homeOf(0, 0), 3);
        for (int what = 1; what <= 5; what++) {
            due.is("of a free one, " + what, x.homeOf(0, what), -1);
        }
        x.live(0, 0);
        x.notice(0);
        x.weeks(2);
        due.is("kind", x.homeOf(0, 0), 3);
        for (int what = 1; what <= 5; what++) {
            due.is("of one that is free again, " + what, x.homeOf(0, what), -1);
        }
    }

    private static void homeOfAPair() {
        due.promise(20, "3 its END (NONE: none was told), 4 hours, 5 nights by its AGREEMENT");
        RoomForHelp x = new RoomForHelp();
        x.home(3, 0, 0, 0);
        x.helper(0, 0, 0, 500);
        x.helper(0, 0, 0, 500);
        Due.agree(x, "hours 12; nights 3;");
        x.weeks(6);
        x.live(0, 1);
        x.weeks(1);
        due.is("kind", x.homeOf(0, 0), 3);
        due.is("helper", x.homeOf(0, 1), 1);
        due.is("first week", x.homeOf(0, 2), 6);
        due.is("no END", x.homeOf(0, 3), -1);
        due.is("hours", x.homeOf(0, 4), 12);
        due.is("nights", x.homeOf(0, 5), 3);
        x.notice(0);
        due.is("END", x.homeOf(0, 3), 9);
        due.is("still with its helper", x.homeOf(0, 1), 1);
    }

    private static void homeOfOthers() {
        due.promise(20, "NONE for others.");
        RoomForHelp x = Due.open(2, 2);
        x.live(0, 0);
        for (int what : Due.outside(0, 5)) {
            due.is("of a pair, " + what, x.homeOf(0, what), -1);
            due.is("of a free one, " + what, x.homeOf(1, what), -1);
        }
        for (int home : Due.outside(0, 1)) {
            for (int what = 0; what <= 5; what++) {
                due.is("of no home " + home, x.homeOf(home, what), -1);
            }
        }
        RoomForHelp y = Due.open(8, 1);
        due.is("the last home", y.homeOf(7, 0), 0);
        due.is("behind the last", y.homeOf(8, 0), -1);
    }
}
