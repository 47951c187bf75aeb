/** Promises 16 to 18: report, judge, judged. */
public final class ReportsTest {
    private static final int MIN = Integer.MIN_VALUE;
    private static final int MAX = Integer.MAX_VALUE;
    private static final Due due = new Due("ReportsTest");

    public static void main(String[] args) {
        whatAWeekComesTo();
        withoutClauses();
        wrongReports();
        weeksOfThePair();
        counts();
        aNewPairBeginsAnew();
        homesAreApart();
        lastWeek();
        due.close();
    }

    private static RoomForHelp living(String agreement) {
        RoomForHelp x = Due.open(3, 3);
        Due.feed(x, agreement);
        x.agreement();
        x.live(0, 0);
        return x;
    }

    private static void tell(RoomForHelp x, int hours, int nights, int want) {
        due.yes("report", x.report(0, 0, hours, nights));
        due.is("judge of " + hours + " hours, " + nights + " nights", x.judge(0, 0), want);
    }

    private static void whatAWeekComesTo() {
        RoomForHelp x = living("hours 10;nights 2;");
        due.is("without a report", x.judge(0, 0), 2);
        tell(x, 10, 2, 0);
        tell(x, 9, 2, 1);
        tell(x, 60, 0, 0);
        tell(x, 10, 3, 1);
        tell(x, 0, 7, 1);
        tell(x, -1, -1, 2);
        tell(x, -1, 2, 2);
        tell(x, -1, 3, 1);
        tell(x, 10, -1, 2);
        tell(x, 9, -1, 1);
        tell(x, -1, 0, 2);
    }

    private static void withoutClauses() {
        RoomForHelp x = living("");
        tell(x, 0, 7, 0);
        tell(x, 0, -1, 2);
        tell(x, -1, 7, 2);
    }

    private static void wrongReports() {
        RoomForHelp x = living("hours 10;");
        x.report(0, 0, 10, 1);
        for (int hours : new int[] {-2, 61, MIN, MAX}) {
            due.no("wrong hours", x.report(0, 0, hours, 1));
        }
        for (int nights : new int[] {-2, 8, MIN, MAX}) {
            due.no("wrong nights", x.report(0, 0, 5, nights));
        }
        for (int home : new int[] {-1, 1, 3, 8, MIN, MAX}) {
            due.no("nobody lives there", x.report(home, 0, 5, 1));
            due.is("nobody lives there", x.judge(home, 0), -1);
            due.is("nobody lives there", x.judged(home, 2), -1);
        }
        for (int week : new int[] {-1, 1, 501, MIN, MAX}) {
            due.no("wrong week", x.report(0, week, 5, 1));
            due.is("wrong week", x.judge(0, week), -1);
        }
        for (int what : new int[] {-1, 3, MIN, MAX}) {
            due.is("judged by " + what, x.judged(0, what), -1);
        }
        due.is("unchanged", x.judge(0, 0), 0);
    }

    private static void weeksOfThePair() {
        RoomForHelp x = Due.open(1, 1);
        x.weeks(5);
        x.live(0, 0);
        x.weeks(3);
        due.no("ahead of the first week", x.report(0, 4, 1, 1));
        due.is("ahead of the first week", x.judge(0, 4), -1);
        due.yes("the first week", x.report(0, 5, 1, 1));
        due.is("the first week", x.judge(0, 5), 0);
        due.is("a week between", x.judge(0, 6), 2);
        due.yes("the clock's week", x.report(0, 8, 1, 1));
        due.is("the clock's week", x.judge(0, 8), 0);
        due.no("behind the clock's week", x.report(0, 9, 1, 1));
        due.is("behind the clock's week", x.judge(0, 9), -1);
        due.is("weeks that are kept", x.judged(0, 0), 2);
        due.is("weeks that are not known", x.judged(0, 2), 2);
    }

    private static void counts() {
        RoomForHelp x = living("hours 10;nights 2;");
        due.is("not known", x.judged(0, 2), 1);
        x.weeks(9);
        for (int week = 0; week < 10; week++) {
            x.report(0, week, week < 3 ? 10 : 9, week < 8 ? 2 : -1);
        }
        x.report(0, 9, 10, -1);
        due.is("kept", x.judged(0, 0), 3);
        due.is("broken", x.judged(0, 1), 6);
        due.is("not known", x.judged(0, 2), 1);
        x.weeks(100);
        due.is("kept", x.judged(0, 0), 3);
        due.is("broken", x.judged(0, 1), 6);
        due.is("not known", x.judged(0, 2), 101);
    }

    private static void aNewPairBeginsAnew() {
        RoomForHelp x = living("trial 1;hours 5;");
        x.report(0, 0, 4, 0);
        x.notice(0);
        due.no("nobody lives there", x.report(0, 0, 4, 0));
        due.is("nobody lives there", x.judge(0, 0), -1);
        due.is("nobody lives there", x.judged(0, 1), -1);
        x.live(0, 1);
        due.is("not known of the new pair", x.judge(0, 0), 2);
        due.is("none broken", x.judged(0, 1), 0);
    }

    private static void homesAreApart() {
        RoomForHelp x = living("hours 5;");
        x.live(1, 1);
        x.report(0, 0, 4, 0);
        x.report(1, 0, 5, 0);
        due.is("home 0", x.judge(0, 0), 1);
        due.is("home 1", x.judge(1, 0), 0);
    }

    private static void lastWeek() {
        RoomForHelp x = living("");
        for (int i = 0; i < 5; i++) {
            x.weeks(100);
        }
        due.yes("week 500", x.report(0, 500, 0, 0));
        due.is("week 500", x.judge(0, 500), 0);
        due.no("week 501", x.report(0, 501, 0, 0));
        due.is("week 501", x.judge(0, 501), -1);
        due.is("not known", x.judged(0, 2), 500);
        due.is("kept", x.judged(0, 0), 1);
    }
}
