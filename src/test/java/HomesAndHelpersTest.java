/** Promises 1 to 6: a new object, home, helper, check, like, why. */
public final class HomesAndHelpersTest {
    private static final int MIN = Integer.MIN_VALUE;
    private static final int MAX = Integer.MAX_VALUE;
    private static final Due due = new Due("HomesAndHelpersTest");

    public static void main(String[] args) {
        newObject();
        homes();
        helpers();
        checks();
        likes();
        reasons();
        reasonsForThoseThatLive();
        due.close();
    }

    private static void newObject() {
        RoomForHelp x = new RoomForHelp();
        for (int what = 0; what <= 5; what++) {
            due.is("new: about(" + what + ")", x.about(what), 0);
        }
        due.is("new: hours", x.about(10), 0);
        due.is("new: nights", x.about(11), 7);
        due.is("new: notice", x.about(12), 2);
        due.is("new: trial", x.about(13), 0);
        due.is("new: fault(0)", x.fault(0), -1);
        due.is("new: fault(1)", x.fault(1), -1);
        due.is("new: best()", x.best(), 0);
        due.is("new: likes()", x.likes(), 0);
        due.is("new: paired(0)", x.paired(0), -1);
        due.is("new: homeOf(0, 0)", x.homeOf(0, 0), -1);
        due.is("new: why(0, 0)", x.why(0, 0), -1);
        for (int kind = 0; kind < 4; kind++) {
            due.is("new: lasting", x.lasting(kind, 0), 0);
            due.is("new: share", x.share(kind, 500, false), 1);
            due.is("new: share", x.share(kind, 500, true), 1);
        }
    }

    private static void homes() {
        RoomForHelp x = new RoomForHelp();
        int[][] wrong = {
            {-1, 0, 0, 0}, {4, 0, 0, 0}, {MIN, 0, 0, 0}, {MAX, 0, 0, 0},
            {0, -1, 0, 0}, {0, 4096, 0, 0}, {0, MIN, 0, 0}, {0, MAX, 0, 0},
            {0, 0, -1, 0}, {0, 0, 4096, 0}, {0, 0, MIN, 0}, {0, 0, MAX, 0},
            {0, 0, 0, -1}, {0, 0, 0, 41}, {0, 0, 0, MIN}, {0, 0, 0, MAX}};
        for (int[] w : wrong) {
            due.is("wrong home", x.home(w[0], w[1], w[2], w[3]), -1);
            due.is("homes after a wrong one", x.about(1), 0);
        }
        for (int i = 0; i < 8; i++) {
            due.is("home", x.home(i % 4, 4095, 4095, i % 2 == 0 ? 0 : 40), i);
            due.is("its kind", x.homeOf(i, 0), i % 4);
            due.is("homes", x.about(1), i + 1);
        }
        due.is("a ninth home", x.home(0, 0, 0, 0), -1);
        due.is("homes", x.about(1), 8);
        due.is("kind of a ninth", x.homeOf(8, 0), -1);
    }

    private static void helpers() {
        RoomForHelp x = new RoomForHelp();
        int[][] wrong = {
            {-1, 0, 0, 0}, {4096, 0, 0, 0}, {MIN, 0, 0, 0}, {MAX, 0, 0, 0},
            {0, -1, 0, 0}, {0, 4096, 0, 0}, {0, MIN, 0, 0}, {0, MAX, 0, 0},
            {0, 0, -1, 0}, {0, 0, 41, 0}, {0, 0, MIN, 0}, {0, 0, MAX, 0},
            {0, 0, 0, -1}, {0, 0, 0, 501}, {0, 0, 0, MIN}, {0, 0, 0, MAX}};
        for (int[] w : wrong) {
            due.is("wrong helper", x.helper(w[0], w[1], w[2], w[3]), -1);
            due.is("helpers after a wrong one", x.about(2), 0);
        }
        for (int i = 0; i < 8; i++) {
            due.is("helper", x.helper(4095, 4095, i % 2 == 0 ? 0 : 40, i % 2 == 0 ? 0 : 500), i);
            due.is("helpers", x.about(2), i + 1);
        }
        due.is("a ninth helper", x.helper(0, 0, 0, 0), -1);
        due.is("helpers", x.about(2), 8);
    }

    private static void checks() {
        RoomForHelp x = new RoomForHelp();
        x.home(0, 0, 0, 0);
        due.no("check of none", x.check(0, 5));
        x.helper(0, 0, 0, 3);
        x.helper(0, 0, 0, 3);
        x.weeks(3);
        due.is("holds in its last week", x.why(0, 0), 0);
        x.weeks(1);
        due.is("no longer holds", x.why(0, 0), 4);
        for (int helper : new int[] {-1, 2, 8, MIN, MAX}) {
            due.no("check of a wrong helper", x.check(helper, 5));
        }
        for (int week : new int[] {-1, 501, MIN, MAX}) {
            due.no("check of a wrong week", x.check(0, week));
        }
        due.is("unchanged", x.why(0, 0), 4);
        due.yes("check", x.check(0, 4));
        due.is("holds again", x.why(0, 0), 0);
        due.is("the other's is unchanged", x.why(0, 1), 4);
        due.yes("check up to 500", x.check(0, 500));
        due.is("holds", x.why(0, 0), 0);
        due.yes("check in the past", x.check(0, 0));
        due.is("doesn't hold", x.why(0, 0), 4);
    }

    private static void likes() {
        RoomForHelp x = new RoomForHelp();
        due.no("like of none", x.like(0, 0, false, 5));
        x.home(0, 0, 0, 0);
        due.no("like of no helper", x.like(0, 0, false, 5));
        due.no("like of no helper, back", x.like(0, 0, true, 5));
        x.helper(0, 0, 0, 500);
        due.is("at first 50 each", x.likes(), 100);
        due.yes("like", x.like(0, 0, false, 0));
        due.is("likes", x.likes(), 50);
        due.yes("like back", x.like(0, 0, true, 99));
        due.is("likes", x.likes(), 99);
        for (int v : new int[] {-1, 100, MIN, MAX}) {
            due.no("wrong like", x.like(0, 0, false, v));
            due.no("wrong like back", x.like(0, 0, true, v));
        }
        for (int n : new int[] {-1, 1, 8, MIN, MAX}) {
            due.no("wrong home", x.like(n, 0, false, 7));
            due.no("wrong home, back", x.like(n, 0, true, 7));
            due.no("wrong helper", x.like(0, n, false, 7));
            due.no("wrong helper, back", x.like(0, n, true, 7));
        }
        due.is("likes are unchanged", x.likes(), 99);
        // A like stands between one home and one helper alone.
        RoomForHelp y = Due.open(2, 3);
        y.like(1, 2, true, 90);
        y.like(0, 1, false, 70);
        due.is("likes", y.likes(), 140 + 120);
        due.is("paired(0)", y.paired(0), 1);
        due.is("paired(1)", y.paired(1), 2);
    }

    private static void reasons() {
        RoomForHelp x = new RoomForHelp();
        x.home(0, 0b1, 0b10, 10);
        x.helper(0b10, 0b1, 9, 0);
        x.helper(0b100, 0b1, 9, 0);
        x.helper(0b100, 0b10, 9, 0);
        x.helper(0b100, 0b10, 10, 0);
        x.helper(0b100, 0b10, 11, 1);
        x.weeks(1);
        for (int helper = 0; helper < 5; helper++) {
            due.is("why(0, " + helper + ")", x.why(0, helper), (helper + 1) % 5);
        }
        x.home(0, 1 << 11, 1 << 11, 0);
        x.helper(1 << 11, 0, 0, 500);
        x.helper(0, 1 << 11, 0, 500);
        due.is("the last trait, barred by the home", x.why(1, 5), 1);
        due.is("the last trait, barred by the helper", x.why(1, 6), 2);
        for (int n : new int[] {-1, 7, 8, MIN, MAX}) {
            due.is("no such helper", x.why(0, n), -1);
        }
        for (int n : new int[] {-1, 2, 8, MIN, MAX}) {
            due.is("no such home", x.why(n, 0), -1);
        }
    }

    private static void reasonsForThoseThatLive() {
        RoomForHelp x = Due.open(2, 2);
        x.live(0, 0);
        due.is("why of a pair that lives", x.why(0, 0), 0);
        due.is("why of one that lives and one that is free", x.why(0, 1), 0);
        due.is("why of one that lives and one that is free", x.why(1, 0), 0);
    }
}
