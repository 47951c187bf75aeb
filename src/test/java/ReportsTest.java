/** Promises 16 to 18: report, judge, judged. */
public final class ReportsTest {
    private static final Due due = new Due("ReportsTest", 16, 17, 18);

    public static void main(String[] args) {
        reportsAtTheEnds();
        otherReports();
        nobodyToReport();
        reportsOfThePairsWeeks();
        theLatestCounts();
        brokenIfSomeBreaks();
        agreementsAtTheEnds();
        notKnownWithoutReport();
        judgeOfThePairsWeeks();
        judgeOfNobody();
        aNewPairBeginsAnew();
        homesAreApart();
        counts();
        countsUpToTheLastWeek();
        otherCounts();
        due.close();
    }

    private static RoomForHelp living(String agreement) {
        RoomForHelp x = Due.open(3, 3);
        Due.agree(x, agreement);
        x.live(0, 0);
        return x;
    }

    private static void tell(RoomForHelp x, int hours, int nights, int want) {
        due.yes("report", x.report(0, 0, hours, nights));
        due.is("judge of " + hours + " hours, " + nights + " nights", x.judge(0, 0), want);
    }

    // ---- promise 16

    private static void reportsAtTheEnds() {
        due.promise(16, "hours (0 .. 60, or not known), nights away (0 .. 7, or not known)");
        RoomForHelp x = living("");
        for (int hours : new int[] {-1, 0, 60}) {
            for (int nights : new int[] {-1, 0, 7}) {
                tell(x, hours, nights, hours == -1 || nights == -1 ? 2 : 0);
            }
        }
    }

    private static void otherReports() {
        due.promise(16, "False for others, or if the HOME lives with nobody.");
        RoomForHelp x = living("hours 10;nights 2;");
        x.weeks(1);
        x.report(0, 0, 10, 2);
        x.report(0, 1, 9, 2);
        for (int week = 0; week < 2; week++) {
            for (int hours : Due.outside(-1, 60)) {
                due.no("hours " + hours, x.report(0, week, hours, 2));
                due.no("hours " + hours, x.report(0, week, hours, 3));
                due.no("hours " + hours, x.report(0, week, hours, -1));
            }
            for (int nights : Due.outside(-1, 7)) {
                due.no("nights " + nights, x.report(0, week, 10, nights));
                due.no("nights " + nights, x.report(0, week, 9, nights));
                due.no("nights " + nights, x.report(0, week, -1, nights));
            }
        }
        due.is("the former report of week 0 stands", x.judge(0, 0), 0);
        due.is("the former report of week 1 stands", x.judge(0, 1), 1);
    }

    private static void nobodyToReport() {
        due.promise(16, "False for others, or if the HOME lives with nobody.");
        RoomForHelp x = living("");
        for (int home : Due.outside(0, 2)) {
            due.no("no home " + home, x.report(home, 0, 5, 1));
        }
        due.no("a free home", x.report(1, 0, 5, 1));
        x.live(1, 1);
        due.is("nothing is known of the pair that came then", x.judge(1, 0), 2);
        x.notice(0);
        x.weeks(2);
        due.no("a home that is free again", x.report(0, 1, 5, 1));
        RoomForHelp y = Due.open(8, 8);
        y.live(7, 7);
        due.yes("the last home", y.report(7, 0, 5, 1));
        due.no("behind the last", y.report(8, 0, 5, 1));
    }

    private static void reportsOfThePairsWeeks() {
        due.promise(16, "A REPORT of a WEEK of a LIVING pair (from its first WEEK to the clock's)");
        RoomForHelp x = Due.open(1, 1);
        x.weeks(5);
        x.live(0, 0);
        x.weeks(3);
        for (int week : Due.outside(5, 8)) {
            due.no("week " + week, x.report(0, week, 1, 1));
        }
        due.no("week 0", x.report(0, 0, 1, 1));
        due.no("week 500", x.report(0, 500, 1, 1));
        due.is("none of them counts", x.judged(0, 2), 4);
        due.yes("the first week", x.report(0, 5, 1, 1));
        due.yes("the clock's week", x.report(0, 8, 1, 1));
        due.is("both count", x.judged(0, 0), 2);
        x.weeks(1);
        due.is("the week that was ahead has no report", x.judge(0, 9), 2);
        due.yes("now it can have one", x.report(0, 9, 1, 1));
        due.is("it counts", x.judge(0, 9), 0);
    }

    private static void theLatestCounts() {
        due.promise(16, "the latest told counts");
        RoomForHelp x = living("hours 10;nights 2;");
        tell(x, 10, 2, 0);
        tell(x, 9, 2, 1);
        tell(x, -1, -1, 2);
        // Hours that were known before are not known now.
        tell(x, 10, -1, 2);
        tell(x, -1, 2, 2);
        tell(x, 10, 2, 0);
        due.is("kept", x.judged(0, 0), 1);
        due.is("broken", x.judged(0, 1), 0);
        due.is("not known", x.judged(0, 2), 0);
    }

    // ---- promise 17

    private static void brokenIfSomeBreaks() {
        due.promise(17, "The WEEK is BROKEN if some that is known breaks it, else KEPT if both are known, else not known");
        RoomForHelp x = living("hours 10;nights 2;");
        tell(x, 10, 2, 0);
        tell(x, 9, 2, 1);
        tell(x, 60, 0, 0);
        tell(x, 10, 3, 1);
        tell(x, 0, 7, 1);
        tell(x, -1, -1, 2);
        tell(x, -1, 2, 2);
        tell(x, -1, 3, 1);
        tell(x, 10, -1, 2);
        tell(x, 9, -1, 1);
        tell(x, -1, 0, 2);
    }

    private static void agreementsAtTheEnds() {
        due.promise(17, "hours (0 .. 60: at least so many a WEEK; without: 0), nights (0 .. 7: at most so many away; "
            + "without: 7)");
        RoomForHelp x = living("");
        tell(x, 0, 7, 0);
        tell(x, 0, -1, 2);
        tell(x, -1, 7, 2);
        RoomForHelp y = living("hours 60;nights 0;");
        tell(y, 60, 0, 0);
        tell(y, 59, 0, 1);
        tell(y, 60, 1, 1);
        tell(y, -1, 0, 2);
        tell(y, -1, 1, 1);
        tell(y, 60, -1, 2);
        tell(y, 59, -1, 1);
        tell(y, -1, -1, 2);
    }

    private static void notKnownWithoutReport() {
        due.promise(17, "else not known (also without a REPORT)");
        RoomForHelp x = living("hours 10;nights 2;");
        due.is("without a report", x.judge(0, 0), 2);
        x.weeks(2);
        x.report(0, 1, 10, 2);
        due.is("the week ahead of one with a report", x.judge(0, 0), 2);
        due.is("the week with a report", x.judge(0, 1), 0);
        due.is("the week behind it", x.judge(0, 2), 2);
    }

    private static void judgeOfThePairsWeeks() {
        due.promise(17, "a WEEK ahead of its first one or behind the clock's");
        RoomForHelp x = Due.open(1, 1);
        x.weeks(5);
        x.live(0, 0);
        x.weeks(3);
        for (int week : Due.outside(5, 8)) {
            due.is("week " + week, x.judge(0, week), -1);
        }
        for (int week = 5; week <= 8; week++) {
            due.is("week " + week, x.judge(0, week), 2);
        }
        due.is("week 0", x.judge(0, 0), -1);
        due.is("week 500", x.judge(0, 500), -1);
        Due.pass(x, 492);
        due.yes("week 500", x.report(0, 500, 0, 0));
        due.is("week 500", x.judge(0, 500), 0);
        due.no("week 501", x.report(0, 501, 0, 0));
        due.is("week 501", x.judge(0, 501), -1);
    }

    private static void judgeOfNobody() {
        due.promise(17, "NONE: nobody lives there");
        RoomForHelp x = living("");
        for (int home : Due.outside(0, 2)) {
            due.is("no home " + home, x.judge(home, 0), -1);
        }
        due.is("a free home", x.judge(1, 0), -1);
        x.notice(0);
        x.weeks(1);
        due.is("notice leaves it there", x.judge(0, 1), 2);
        x.weeks(1);
        due.is("nobody lives there any more", x.judge(0, 1), -1);
    }

    private static void aNewPairBeginsAnew() {
        due.promise(17, "A WEEK of the pair that lives in a HOME: 0 KEPT, 1 BROKEN, 2 not known.");
        RoomForHelp x = living("trial 1;hours 5;");
        x.report(0, 0, 4, 0);
        x.notice(0);
        due.is("nobody lives there", x.judge(0, 0), -1);
        x.live(0, 1);
        due.is("not known of the new pair", x.judge(0, 0), 2);
        due.is("none broken", x.judged(0, 1), 0);
        x.report(0, 0, 4, 0);
        x.notice(0);
        x.live(0, 1);
        due.is("not known of the same two again", x.judge(0, 0), 2);
        x.report(0, 0, 5, 0);
        Due.agree(x, "hours 6;");
        due.is("its own agreement counts", x.judge(0, 0), 0);
    }

    private static void homesAreApart() {
        due.promise(17, "A WEEK of the pair that lives in a HOME: 0 KEPT, 1 BROKEN, 2 not known.");
        RoomForHelp x = living("hours 5;");
        x.live(1, 1);
        x.live(2, 2);
        x.report(0, 0, 4, 0);
        x.report(1, 0, 5, 0);
        due.is("home 0", x.judge(0, 0), 1);
        due.is("home 1", x.judge(1, 0), 0);
        due.is("home 2", x.judge(2, 0), 2);
    }

    // ---- promise 18

    private static void counts() {
        due.promise(18, "WEEKS of the pair that lives in a HOME, up to the clock's: what 0 KEPT, 1 BROKEN, 2 not known.");
        RoomForHelp x = living("hours 10;nights 2;");
        due.is("the first week counts", x.judged(0, 2), 1);
        x.weeks(9);
        for (int week = 0; week < 10; week++) {
            x.report(0, week, week < 3 ? 10 : 9, week < 8 ? 2 : -1);
        }
        x.report(0, 9, 10, -1);
        due.is("kept", x.judged(0, 0), 3);
        due.is("broken", x.judged(0, 1), 6);
        due.is("not known", x.judged(0, 2), 1);
        x.weeks(100);
        due.is("kept", x.judged(0, 0), 3);
        due.is("broken", x.judged(0, 1), 6);
        due.is("not known", x.judged(0, 2), 101);
    }

    private static void countsUpToTheLastWeek() {
        due.promise(18, "WEEKS of the pair that lives in a HOME, up to the clock's: what 0 KEPT, 1 BROKEN, 2 not known.");
        RoomForHelp x = living("hours 1;");
        Due.pass(x, 499);
        x.live(1, 1);
        x.weeks(1);
        x.report(0, 0, 1, 0);
        x.report(0, 500, 0, 0);
        due.is("kept", x.judged(0, 0), 1);
        due.is("broken", x.judged(0, 1), 1);
        due.is("not known", x.judged(0, 2), 499);
        due.is("from its first week on alone", x.judged(1, 2), 2);
    }

    private static void otherCounts() {
        due.promise(18, "NONE for others.");
        RoomForHelp x = living("");
        for (int what : Due.outside(0, 2)) {
            due.is("judged by " + what, x.judged(0, what), -1);
        }
        for (int what = 0; what <= 2; what++) {
            due.is("a free home", x.judged(1, what), -1);
            for (int home : Due.outside(0, 2)) {
                due.is("no home " + home, x.judged(home, what), -1);
            }
        }
        x.notice(0);
        x.weeks(2);
        due.is("a home that is free again", x.judged(0, 2), -1);
    }
}
