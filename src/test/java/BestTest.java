/** Promises 7 to 9: best, paired, likes. */
public final class BestTest {
    private static final Due due = new Due("BestTest");

    public static void main(String[] args) {
        fewestRunawaysBeforeLikes();
        mostLikesOfTheStable();
        firstByHomes();
        noneLast();
        tiesAreNoReasonToLeave();
        onlyThoseThatCan();
        onlyTheFree();
        tooMany();
        wrongHomes();
        due.close();
    }

    private static void expect(RoomForHelp x, String name, int runaways, int likes, int... helpers) {
        due.is(name + ": best()", x.best(), runaways);
        due.is(name + ": likes()", x.likes(), likes);
        for (int home = 0; home < helpers.length; home++) {
            due.is(name + ": paired(" + home + ")", x.paired(home), helpers[home]);
        }
    }

    private static void like(RoomForHelp x, int home, int helper, int v, int back) {
        due.yes("like", x.like(home, helper, false, v));
        due.yes("like back", x.like(home, helper, true, back));
    }

    private static void fewestRunawaysBeforeLikes() {
        RoomForHelp x = Due.open(2, 2);
        like(x, 0, 0, 60, 60);
        like(x, 0, 1, 59, 99);
        like(x, 1, 0, 99, 59);
        like(x, 1, 1, 0, 0);
        // The crossed pairing has 316 likes, but home 0 and helper 0 would run away.
        expect(x, "runaways first", 0, 120, 0, 1);
    }

    private static void mostLikesOfTheStable() {
        RoomForHelp x = Due.open(2, 2);
        like(x, 0, 0, 60, 10);
        like(x, 0, 1, 50, 99);
        like(x, 1, 0, 50, 99);
        like(x, 1, 1, 60, 10);
        // Both perfect pairings are stable: 140 likes straight, 298 crossed.
        expect(x, "most likes", 0, 298, 1, 0);
    }

    private static void firstByHomes() {
        RoomForHelp x = Due.open(3, 3);
        expect(x, "all alike", 0, 300, 0, 1, 2);
        RoomForHelp y = Due.open(6, 6);
        expect(y, "six alike", 0, 600, 0, 1, 2, 3, 4, 5);
        like(y, 5, 0, 51, 50);
        expect(y, "one is liked a bit more", 0, 601, 1, 2, 3, 4, 5, 0);
        RoomForHelp z = Due.open(2, 4);
        expect(z, "more helpers", 0, 200, 0, 1);
    }

    private static void noneLast() {
        RoomForHelp x = Due.open(3, 2);
        expect(x, "more homes", 0, 200, 0, 1, -1);
        RoomForHelp y = Due.open(2, 1);
        like(y, 0, 0, 0, 0);
        like(y, 1, 0, 0, 0);
        expect(y, "no likes", 0, 0, 0, -1);
        like(y, 1, 0, 0, 1);
        expect(y, "the helper's like", 0, 1, -1, 0);
        RoomForHelp z = Due.open(3, 0);
        expect(z, "no helpers", 0, 0, -1, -1, -1);
        RoomForHelp w = Due.open(0, 6);
        expect(w, "no homes", 0, 0);
    }

    private static void tiesAreNoReasonToLeave() {
        RoomForHelp x = Due.open(2, 2);
        like(x, 0, 0, 50, 60);
        like(x, 0, 1, 50, 90);
        like(x, 1, 0, 50, 59);
        like(x, 1, 1, 50, 50);
        // Homes like both alike, so nobody runs away and the likes decide: 249 crossed, 210 straight.
        expect(x, "ties", 0, 249, 1, 0);
    }

    private static void onlyThoseThatCan() {
        RoomForHelp x = new RoomForHelp();
        x.home(0, 0, 1, 0);
        x.home(0, 2, 0, 0);
        x.home(0, 0, 0, 20);
        x.helper(1, 2, 10, 500);
        expect(x, "none can", 0, 0, -1, -1, -1);
        x.helper(0, 0, 20, 3);
        expect(x, "the first", 0, 100, 1, -1, -1);
        x.like(2, 1, true, 51);
        expect(x, "the last", 0, 101, -1, -1, 1);
        x.weeks(4);
        expect(x, "the check is over", 0, 0, -1, -1, -1);
        x.check(1, 4);
        expect(x, "the check holds", 0, 101, -1, -1, 1);
    }

    private static void onlyTheFree() {
        RoomForHelp x = Due.open(3, 3);
        x.live(1, 0);
        expect(x, "two are free", 0, 200, 1, -1, 2);
        x.notice(1);
        expect(x, "notice leaves them living", 0, 200, 1, -1, 2);
        x.weeks(2);
        expect(x, "all are free again", 0, 300, 0, 1, 2);
    }

    private static void tooMany() {
        RoomForHelp x = Due.open(7, 2);
        expect(x, "seven homes", -1, -1, -1, -1, -1, -1, -1, -1, -1);
        x.live(3, 1);
        expect(x, "six free homes", 0, 100, 0, -1, -1, -1, -1, -1, -1);
        RoomForHelp y = Due.open(1, 7);
        expect(y, "seven helpers", -1, -1, -1);
        y.live(0, 6);
        expect(y, "six free helpers", 0, 0, -1);
        RoomForHelp z = Due.open(8, 8);
        z.live(0, 0);
        expect(z, "seven of each", -1, -1, -1, -1);
        z.live(7, 7);
        expect(z, "six of each", 0, 600, -1, 1, 2, 3, 4, 5, 6, -1);
    }

    private static void wrongHomes() {
        RoomForHelp x = Due.open(2, 2);
        for (int home : new int[] {-1, 2, 6, 8, Integer.MIN_VALUE, Integer.MAX_VALUE}) {
            due.is("paired(" + home + ")", x.paired(home), -1);
        }
        x.live(0, 1);
        due.is("paired of a home that isn't free", x.paired(0), -1);
        due.is("paired of the free one", x.paired(1), 0);
    }
}
