import java.util.ArrayList;
import java.util.List;

/** What stands ahead of the promises: terms that several of them rest on, seen in each call that uses them. */
public final class TermsTest {
    private static final Due due = new Due("TermsTest");
    private static final int NONE = RoomForHelp.NONE;
    private static final String[] WORDS = {"hours", "nights", "notice", "trial"};
    private static final int[] WITHOUT = {0, 7, 2, 0};
    private static final int[] NUMBERS = {33, 4, 11, 6};

    public static void main(String[] args) {
        weeksAtFirst();
        weeksToTheLast();
        numbersOfHomes();
        numbersOfHelpers();
        likesByBoth();
        runawayOfFreeOnesAlone();
        runawayOfThoseThatCan();
        clausesInAnyOrder();
        notKnownIsNone();
        noticeOnTheClocksWeek();
        noticeTellsTheEnd();
        kindsOfHomes();
        endedOrNot();
        endedFromOtherFirstWeeks();
        due.close();
    }

    private static void weeksAtFirst() {
        due.promise(11, "WEEKS 0 .. 500, the clock's at first 0.");
        RoomForHelp x = Due.open(1, 1);
        due.is("the clock", x.about(0), 0);
        for (int week : new int[] {0, 1, 499, 500}) {
            due.yes("check", x.check(0, week));
            due.is("helper", x.helper(0, 0, 0, week) < 0 ? 0 : 1, 1);
            due.is("share", x.share(0, week, true), 1);
        }
        for (int week : Due.outside(0, 500)) {
            due.no("check", x.check(0, week));
            due.is("helper", x.helper(0, 0, 0, week), NONE);
            due.is("share", x.share(0, week, true), NONE);
        }
        due.yes("live", x.live(0, 0));
        due.is("the first week of the pair", x.homeOf(0, 2), 0);
    }

    private static void weeksToTheLast() {
        due.promise(11, "WEEKS 0 .. 500, the clock's at first 0.");
        RoomForHelp x = Due.open(1, 1);
        x.live(0, 0);
        Due.pass(x, 500);
        due.is("the clock", x.about(0), 500);
        due.is("one week more", x.weeks(1), NONE);
        due.is("the clock", x.about(0), 500);
        for (int week : new int[] {0, 1, 499, 500}) {
            due.yes("report", x.report(0, week, 0, 0));
            due.is("judge", x.judge(0, week), 0);
        }
        for (int week : Due.outside(0, 500)) {
            due.no("report", x.report(0, week, 0, 0));
            due.is("judge", x.judge(0, week), NONE);
        }
        due.is("kept", x.judged(0, 0), 4);
        due.is("not known", x.judged(0, 2), 497);
    }

    private static void numbersOfHomes() {
        due.promise(2, "HOMES 0 .. 7");
        for (int homes = 0; homes <= 8; homes++) {
            RoomForHelp x = Due.open(homes, 1);
            due.is("a home more", x.home(0, 0, 0, 0), homes == 8 ? NONE : homes);
            int last = Math.min(homes, 7);
            due.yes("like of the last", x.like(last, 0, false, 60));
            due.is("why of the last", x.why(last, 0), 0);
            due.yes("live in the last", x.live(last, 0));
            for (int home : Due.outside(0, last)) {
                noHome(x, home);
            }
            due.is("the last lives with", x.homeOf(last, 1), 0);
            due.is("notice in the last", x.notice(last), 2);
        }
    }

    private static void noHome(RoomForHelp x, int home) {
        due.no("like", x.like(home, 0, false, 60));
        due.no("like back", x.like(home, 0, true, 60));
        due.is("why", x.why(home, 0), NONE);
        due.is("paired", x.paired(home), NONE);
        due.no("live", x.live(home, 0));
        due.no("report", x.report(home, 0, 0, 0));
        due.is("judge", x.judge(home, 0), NONE);
        due.is("judged", x.judged(home, 2), NONE);
        due.is("notice", x.notice(home), NONE);
        due.is("homeOf", x.homeOf(home, 0), NONE);
    }

    private static void numbersOfHelpers() {
        due.promise(3, "HELPERS 0 .. 7");
        for (int helpers = 0; helpers <= 8; helpers++) {
            RoomForHelp x = Due.open(1, helpers);
            due.is("a helper more", x.helper(0, 0, 0, 500), helpers == 8 ? NONE : helpers);
            int last = Math.min(helpers, 7);
            for (int helper : Due.outside(0, last)) {
                due.no("check", x.check(helper, 9));
                due.no("like", x.like(0, helper, false, 60));
                due.no("like back", x.like(0, helper, true, 60));
                due.is("why", x.why(0, helper), NONE);
                due.no("live", x.live(0, helper));
            }
            due.yes("check of the last", x.check(last, 9));
            due.yes("like of the last", x.like(0, last, true, 60));
            due.is("why of the last", x.why(0, last), 0);
            due.yes("live with the last", x.live(0, last));
        }
    }

    /** All likes are told; then all but one home and one helper live together, so that theirs alone are seen. */
    private static void likesByBoth() {
        due.promise(5, "LIKES of a HOME for a HELPER, of a HELPER for a HOME");
        for (int home = 0; home < 8; home++) {
            for (int helper = 0; helper < 8; helper++) {
                RoomForHelp x = Due.open(8, 8);
                for (int i = 0; i < 64; i++) {
                    x.like(i / 8, i % 8, false, i);
                    x.like(i / 8, i % 8, true, 99 - i * i % 97);
                }
                for (int i = 1; i < 8; i++) {
                    x.live((home + i) % 8, (helper + i) % 8);
                }
                int i = 8 * home + helper;
                due.is("likes of " + home + " and " + helper, x.likes(), i + 99 - i * i % 97);
                due.is("paired", x.paired(home), helper);
            }
        }
    }

    private static void both(RoomForHelp x, int home, int helper, int v) {
        x.like(home, helper, false, v);
        x.like(home, helper, true, v);
    }

    private static void runawayOfFreeOnesAlone() {
        due.promise(7, "A RUNAWAY pair: a HOME and a HELPER (both free), that CAN, aren't paired");
        RoomForHelp x = Due.open(3, 3);
        both(x, 1, 0, 99);
        both(x, 0, 1, 99);
        both(x, 1, 1, 1);
        x.live(0, 0);
        both(x, 2, 2, 0);
        due.is("those that live run away with nobody", x.best(), 0);
        due.is("home 0", x.paired(0), NONE);
        // 1 and 1, 2 and 2 hardly like each other; 1 and 2 do, as at first.
        due.is("home 1", x.paired(1), 2);
        due.is("home 2", x.paired(2), 1);
        due.is("likes", x.likes(), 200);
    }

    private static void runawayOfThoseThatCan() {
        due.promise(7, "A RUNAWAY pair: a HOME and a HELPER (both free), that CAN, aren't paired");
        RoomForHelp x = new RoomForHelp();
        x.home(0, 0, 1, 0);
        x.home(0, 0, 0, 0);
        x.helper(1, 0, 0, 500);
        x.helper(0, 0, 0, 500);
        both(x, 0, 0, 99);
        both(x, 0, 1, 90);
        both(x, 1, 0, 90);
        both(x, 1, 1, 91);
        due.is("they would rather, but can't", x.best(), 0);
        due.is("home 0", x.paired(0), NONE);
        due.is("home 1", x.paired(1), 1);
        due.is("likes", x.likes(), 182);
        both(x, 1, 1, 90);
        due.is("no more is not rather", x.best(), 0);
        due.is("home 0", x.paired(0), 1);
        due.is("home 1", x.paired(1), 0);
        due.is("likes", x.likes(), 360);
    }

    private static void clausesInAnyOrder() {
        due.promise(14, "{CLAUSE}, CLAUSE: WORD NUMBER ; by WORDS: hours");
        clausesBehind(new ArrayList<>());
    }

    /** Each row of clauses that begins with these, no word twice. */
    private static void clausesBehind(List<Integer> words) {
        RoomForHelp x = new RoomForHelp();
        StringBuilder text = new StringBuilder();
        for (int word : words) {
            text.append(WORDS[word]).append(' ').append(NUMBERS[word]).append(';');
        }
        due.is("clauses of '" + text + "'", Due.agree(x, text.toString()), words.size());
        for (int word = 0; word < 4; word++) {
            int want = words.contains(word) ? NUMBERS[word] : WITHOUT[word];
            due.is(WORDS[word] + " of '" + text + "'", x.about(10 + word), want);
        }
        for (int word = 0; word < 4; word++) {
            if (!words.contains(word)) {
                List<Integer> longer = new ArrayList<>(words);
                longer.add(word);
                clausesBehind(longer);
            }
        }
    }

    private static void notKnownIsNone() {
        due.promise(16, "A REPORT (NONE: not known): true.");
        RoomForHelp x = Due.open(1, 1);
        Due.agree(x, "hours 5;nights 3;");
        x.live(0, 0);
        due.yes("both known", x.report(0, 0, 5, 3));
        due.is("kept", x.judge(0, 0), 0);
        due.yes("hours not known", x.report(0, 0, NONE, 3));
        due.is("not known", x.judge(0, 0), 2);
        due.yes("hours not known", x.report(0, 0, NONE, 4));
        due.is("broken", x.judge(0, 0), 1);
        due.yes("nights not known", x.report(0, 0, 5, NONE));
        due.is("not known", x.judge(0, 0), 2);
        due.yes("nights not known", x.report(0, 0, 4, NONE));
        due.is("broken", x.judge(0, 0), 1);
        due.yes("neither known", x.report(0, 0, NONE, NONE));
        due.is("not known", x.judge(0, 0), 2);
    }

    private static void noticeOnTheClocksWeek() {
        due.promise(19, "NOTICE is given by either on the clock's WEEK: the pair's END is that WEEK and notice more");
        for (int first : new int[] {0, 1, 40}) {
            for (int waited : new int[] {0, 1, 6, 7, 90}) {
                RoomForHelp x = Due.open(1, 1);
                Due.agree(x, "notice 9;");
                Due.pass(x, first);
                x.live(0, 0);
                Due.pass(x, waited);
                due.is("END", x.notice(0), first + waited + 9);
                due.is("ended a week too early", x.weeks(8), 0);
                due.is("ended", x.weeks(1), 1);
                due.is("it lasted so long", x.until(0, 100), waited + 9);
            }
        }
    }

    private static void noticeTellsTheEnd() {
        due.promise(19, "NOTICE: the END.");
        RoomForHelp x = Due.open(2, 2);
        Due.agree(x, "notice 20;trial 3;");
        x.live(0, 0);
        x.live(1, 1);
        x.weeks(2);
        due.is("in trial", x.notice(0), 2);
        x.weeks(1);
        due.is("behind it", x.notice(1), 23);
        due.is("homeOf tells the same", x.homeOf(1, 3), 23);
    }

    private static void kindsOfHomes() {
        due.promise(20, "Of a HOME: 0 KIND");
        RoomForHelp x = new RoomForHelp();
        for (int home = 0; home < 8; home++) {
            x.home(3 - home % 4, 0, 0, 0);
            x.helper(0, 0, 0, 500);
        }
        for (int home = 0; home < 8; home++) {
            due.is("kind of a free one", x.homeOf(home, 0), 3 - home % 4);
            x.live(home, home);
            due.is("kind of one that isn't", x.homeOf(home, 0), 3 - home % 4);
        }
        for (int kind = 0; kind < 4; kind++) {
            due.is("pairs of a kind", x.lasting(kind, 0), 2);
        }
    }

    private static void share(RoomForHelp x, int w, long upper, long lower) {
        due.is("upper at " + w, x.share(0, w, false), upper);
        due.is("lower at " + w, x.share(0, w, true), lower);
    }

    private static void endedOrNot() {
        due.promise(21, "of (n - d) / n, with d those that ENDED with LASTED t, and n all, ENDED or not, with LASTED t or more");
        RoomForHelp x = Due.open(7, 7);
        Due.agree(x, "notice 0;");
        for (int i = 0; i < 7; i++) {
            x.live(i, i);
        }
        x.weeks(2);
        x.notice(0);
        x.notice(1);
        x.weeks(3);
        x.notice(2);
        share(x, 1, 1, 1);
        share(x, 2, 5, 7);
        share(x, 4, 5, 7);
        share(x, 5, 4, 7);
        x.weeks(4);
        x.notice(3);
        x.notice(4);
        x.notice(5);
        share(x, 5, 4, 7);
        share(x, 8, 4, 7);
        share(x, 9, 1, 7);
        x.notice(6);
        share(x, 8, 4, 7);
        share(x, 9, 0, 1);
    }

    private static void endedFromOtherFirstWeeks() {
        due.promise(21, "with d those that ENDED with LASTED t, and n all, ENDED or not, with LASTED t or more");
        RoomForHelp x = Due.open(3, 3);
        Due.agree(x, "notice 0;");
        x.live(0, 0);
        x.weeks(2);
        x.live(1, 1);
        x.weeks(1);
        x.notice(0);
        x.live(2, 2);
        // One ended with 3, the others have gone on for 1 and for 0.
        share(x, 3, 0, 1);
        x.weeks(2);
        x.notice(1);
        // Two ended with 3, one has gone on for 2.
        share(x, 2, 1, 1);
        share(x, 3, 0, 1);
        x.weeks(1);
        share(x, 3, 1, 3);
        due.is("below 34 hundredths", x.until(0, 34), 3);
        due.is("below 33 hundredths", x.until(0, 33), NONE);
    }
}
