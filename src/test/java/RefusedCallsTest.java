import java.util.List;
import java.util.function.Supplier;
import java.util.function.ToLongFunction;

/**
 * A refused call changes nothing: of two objects with the same calls behind them one is asked for what must be
 * refused, and from there on both answer alike.
 */
public final class RefusedCallsTest {
    /** With the calls that make an object there are never more than the 512 that it may be used for. */
    private static final int MOST_SEEN = 400;
    private static final Due due = new Due("RefusedCallsTest",
        2, 3, 4, 5, 6, 7, 8, 9, 10, 11, 12, 13, 15, 16, 17, 18, 19, 20, 21, 22, 23, 24);

    public static void main(String[] args) {
        homes();
        helpers();
        checks();
        likes();
        living();
        weeks();
        theTape();
        reports();
        notice();
        questions();
        everythingIsFull();
        lateWeeks();
        tooManyAreFree();
        due.close();
    }

    /** Pairs that live, one with notice, one that ended at once; reports of all sorts; a tape that waits. */
    private static RoomForHelp livedIn() {
        RoomForHelp x = new RoomForHelp();
        x.home(0, 1, 2, 5);
        x.home(0, 0, 0, 0);
        x.home(1, 0, 0, 0);
        x.home(3, 0, 4, 9);
        x.helper(0, 0, 10, 5);
        x.helper(4, 0, 9, 6);
        x.helper(0, 0, 9, 500);
        x.helper(2, 1, 3, 7);
        x.helper(0, 2, 20, 500);
        x.like(3, 4, false, 61);
        x.like(3, 4, true, 72);
        Due.agree(x, "hours 4;nights 3;notice 4;trial 2;");
        x.live(0, 0);
        x.live(2, 1);
        x.weeks(3);
        x.report(0, 0, 4, 3);
        x.report(0, 1, 3, -1);
        x.report(2, 3, 9, 0);
        x.notice(2);
        x.live(1, 2);
        x.notice(1);
        x.live(1, 2);
        x.weeks(1);
        Due.agree(x, "hours 5;nights 6;;");
        Due.feed(x, "trial 9;");
        return x;
    }

    /** Eight homes, eight helpers, sixteen pairs of kind 0, 200 bytes. */
    private static RoomForHelp full() {
        RoomForHelp x = Due.open(8, 8);
        Due.agree(x, "notice 0;");
        for (int i = 0; i < 16; i++) {
            x.live(i % 8, i % 8);
            if (i < 8) {
                x.notice(i);
            }
        }
        x.weeks(2);
        x.notice(0);
        Due.feed(x, "hours 8;" + " ".repeat(184) + "trial 7;");
        return x;
    }

    /** 181 bytes: there is room for some of those that may not come. */
    private static RoomForHelp nearlyFull() {
        RoomForHelp x = livedIn();
        Due.feed(x, " ".repeat(173));
        return x;
    }

    /** Week 499, a pair with a notice of 2 weeks, a pair that has an END, and a free home. */
    private static RoomForHelp late() {
        RoomForHelp x = Due.open(3, 3);
        x.live(0, 0);
        x.live(1, 1);
        Due.pass(x, 498);
        x.notice(1);
        x.weeks(1);
        return x;
    }

    private static void refused(Supplier<RoomForHelp> made, String name, ToLongFunction<RoomForHelp> call) {
        RoomForHelp asked = made.get();
        due.is(name, call.applyAsLong(asked), -1);
        List<String> seen = Seen.of(asked);
        List<String> want = Seen.of(made.get());
        due.yes("no more calls are seen than an object has", seen.size() <= MOST_SEEN);
        due.is("calls that were seen after " + name, seen.size(), want.size());
        for (int i = 0; i < Math.min(seen.size(), want.size()); i++) {
            due.yes("after " + name + ", " + seen.get(i) + ", due is: " + want.get(i), seen.get(i).equals(want.get(i)));
        }
    }

    private static void refused(String name, ToLongFunction<RoomForHelp> call) {
        refused(RefusedCallsTest::livedIn, name, call);
    }

    /** A refusal by false counts as one by NONE. */
    private static long none(boolean done) {
        return done ? 1 : -1;
    }

    private static void homes() {
        due.promise(2, "NONE for others, or if there are 8.");
        for (int kind : Due.outside(0, 3)) {
            refused("home of kind " + kind, x -> x.home(kind, 0, 0, 0));
        }
        refused("home with trait 12", x -> x.home(0, 4096, 0, 0));
        refused("home against trait 12", x -> x.home(0, 0, 4096, 0));
        refused("home of 41 hours", x -> x.home(0, 0, 0, 41));
    }

    private static void helpers() {
        due.promise(3, "NONE for others, or if there are 8.");
        refused("helper with trait 12", x -> x.helper(4096, 0, 0, 0));
        refused("helper against trait 12", x -> x.helper(0, 4096, 0, 0));
        refused("helper of 41 hours", x -> x.helper(0, 0, 41, 0));
        for (int check : Due.outside(0, 500)) {
            refused("helper checked through " + check, x -> x.helper(0, 0, 0, check));
        }
    }

    private static void checks() {
        due.promise(4, "False for others.");
        for (int week : Due.outside(0, 500)) {
            refused("check(0, " + week + ")", x -> none(x.check(0, week)));
        }
        for (int helper : Due.outside(0, 4)) {
            refused("check(" + helper + ", 0)", x -> none(x.check(helper, 0)));
        }
    }

    private static void likes() {
        due.promise(5, "False for others.");
        for (int v : Due.outside(0, 99)) {
            refused("like(3, 4, false, " + v + ")", x -> none(x.like(3, 4, false, v)));
            refused("like(3, 4, true, " + v + ")", x -> none(x.like(3, 4, true, v)));
        }
        for (int home : Due.outside(0, 3)) {
            refused("like(" + home + ", 4, true, 99)", x -> none(x.like(home, 4, true, 99)));
        }
        for (int helper : Due.outside(0, 4)) {
            refused("like(3, " + helper + ", false, 99)", x -> none(x.like(3, helper, false, 99)));
        }
    }

    private static void living() {
        due.promise(10, "False: others, or there are 16 pairs of that KIND that live or lived.");
        refused("live, of a home that isn't free", x -> none(x.live(0, 4)));
        refused("live, of a helper that isn't free", x -> none(x.live(3, 2)));
        refused("live, of two that live together", x -> none(x.live(0, 0)));
        refused("live, of two that can't", x -> none(x.live(3, 3)));
        for (int home : Due.outside(0, 3)) {
            refused("live(" + home + ", 4)", x -> none(x.live(home, 4)));
        }
        for (int helper : Due.outside(0, 4)) {
            refused("live(3, " + helper + ")", x -> none(x.live(3, helper)));
        }
    }

    private static void weeks() {
        due.promise(11, "NONE for others, or beyond 500.");
        for (int n : Due.outside(1, 100)) {
            refused("weeks(" + n + ")", x -> x.weeks(n));
        }
    }

    private static void theTape() {
        due.promise(13, "NONE, and nothing is done, if it has not so many, or n is below 0.");
        for (int n : Due.outside(0, 8)) {
            refused("end(" + n + ")", x -> x.end(n));
        }
    }

    private static void reports() {
        due.promise(16, "False for others, or if the HOME lives with nobody.");
        for (int week : Due.outside(0, 4)) {
            refused("report(0, " + week + ", 9, 0)", x -> none(x.report(0, week, 9, 0)));
        }
        refused("report ahead of the first week", x -> none(x.report(1, 2, 9, 0)));
        for (int hours : Due.outside(-1, 60)) {
            refused("report(0, 1, " + hours + ", 0)", x -> none(x.report(0, 1, hours, 0)));
        }
        for (int nights : Due.outside(-1, 7)) {
            refused("report(0, 0, 1, " + nights + ")", x -> none(x.report(0, 0, 1, nights)));
        }
        refused("report of a free home", x -> none(x.report(3, 0, 9, 0)));
    }

    private static void notice() {
        due.promise(19, "NONE: nobody lives there, it was given, or the END would be beyond 500.");
        refused("notice that was given", x -> x.notice(2));
        refused("notice of a free home", x -> x.notice(3));
        for (int home : Due.outside(0, 3)) {
            refused("notice(" + home + ")", x -> x.notice(home));
        }
    }

    /** Questions that are answered with NONE. */
    private static void questions() {
        due.promise(6, "NONE: no such ones.");
        refused("why(4, 5)", x -> x.why(4, 5));
        due.promise(8, "NONE for others, and as best().");
        refused("paired(0)", x -> x.paired(0));
        due.promise(15, "NONE for others, and ahead of any.");
        refused("fault(2)", x -> x.fault(2));
        due.promise(17, "NONE: nobody lives there, a WEEK ahead of its first one or behind the clock's.");
        refused("judge(0, 5)", x -> x.judge(0, 5));
        due.promise(18, "NONE for others.");
        refused("judged(0, 3)", x -> x.judged(0, 3));
        due.promise(20, "NONE for others.");
        refused("homeOf(0, 6)", x -> x.homeOf(0, 6));
        due.promise(21, "NONE for others.");
        refused("share(0, 501, false)", x -> x.share(0, 501, false));
        due.promise(22, "NONE: none is, and for others.");
        refused("until(0, 101)", x -> x.until(0, 101));
        due.promise(23, "NONE for others.");
        refused("lasting(4, 0)", x -> x.lasting(4, 0));
        due.promise(24, "NONE for others.");
        refused("about(6)", x -> x.about(6));
    }

    private static void everythingIsFull() {
        due.promise(2, "NONE for others, or if there are 8.");
        refused(RefusedCallsTest::full, "a ninth home", x -> x.home(1, 0, 0, 0));
        due.promise(3, "NONE for others, or if there are 8.");
        refused(RefusedCallsTest::full, "a ninth helper", x -> x.helper(0, 0, 0, 500));
        due.promise(10, "False: others, or there are 16 pairs of that KIND that live or lived.");
        refused(RefusedCallsTest::full, "a seventeenth pair", x -> none(x.live(0, 0)));
        due.promise(12, "NONE, and none come, if there would be more than 200.");
        refused(RefusedCallsTest::full, "more than 200 bytes", x -> x.feed(1, 2, 3, 4, 5));
        refused(RefusedCallsTest::nearlyFull, "the 201st byte", x -> x.feed(1, 2, 3, 4, 5));
    }

    private static void lateWeeks() {
        due.promise(11, "NONE for others, or beyond 500.");
        for (int n : new int[] {2, 3, 100}) {
            refused(RefusedCallsTest::late, "weeks(" + n + ") in week 499", x -> x.weeks(n));
        }
        due.promise(19, "NONE: nobody lives there, it was given, or the END would be beyond 500.");
        refused(RefusedCallsTest::late, "a notice beyond 500", x -> x.notice(0));
        refused(RefusedCallsTest::late, "a notice that was given", x -> x.notice(1));
    }

    private static void tooManyAreFree() {
        due.promise(7, "NONE: more than 6 free HOMES, or free HELPERS.");
        refused(() -> Due.open(7, 6), "best() of seven homes", RoomForHelp::best);
        refused(() -> Due.open(6, 7), "best() of seven helpers", RoomForHelp::best);
        due.promise(8, "NONE for others, and as best().");
        refused(() -> Due.open(7, 7), "paired(0) of seven", x -> x.paired(0));
        due.promise(9, "NONE as best().");
        refused(() -> Due.open(7, 7), "likes() of seven", RoomForHelp::likes);
    }
}
