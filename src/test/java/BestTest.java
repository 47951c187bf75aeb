/** Promises 7 to 9: best, paired, likes. */
public final class BestTest {
    private static final Due due = new Due("BestTest", 7, 8, 9);

    public static void main(String[] args) {
        fewestRunawaysBeforeLikes();
        runawaysToThoseWithNobody();
        mostLikesOfTheStable();
        mostLikesFirstOrLast();
        firstByHomes();
        noneLast();
        noLikesAtAll();
        tiesAreNoReasonToLeave();
        onlyThoseThatCan();
        onlyTheFree();
        nobodyAtAll();
        tooManyHomes();
        tooManyHelpers();
        sixOfEachAtMost();
        tooManyAgain();
        pairedForOthers();
        pairedOfTheLastHome();
        likesAtTheEnds();
        upToTheLastCall();
        due.close();
    }

    private static void expect(RoomForHelp x, String name, int runaways, int likes, int... helpers) {
        due.is(name + ": best()", x.best(), runaways);
        due.is(name + ": likes()", x.likes(), likes);
        for (int home = 0; home < helpers.length; home++) {
            due.is(name + ": paired(" + home + ")", x.paired(home), helpers[home]);
        }
    }

    private static void like(RoomForHelp x, int home, int helper, int v, int back) {
        due.yes("like", x.like(home, helper, false, v));
        due.yes("like back", x.like(home, helper, true, back));
    }

    private static void fewestRunawaysBeforeLikes() {
        due.promise(7, "THE BEST: the fewest RUNAWAY pairs; of these the most likes");
        RoomForHelp x = Due.open(2, 2);
        like(x, 0, 0, 60, 60);
        like(x, 0, 1, 59, 99);
        like(x, 1, 0, 99, 59);
        like(x, 1, 1, 0, 0);
        // The crossed pairing has 316 likes, but home 0 and helper 0 would run away.
        expect(x, "runaways first", 0, 120, 0, 1);
    }

    private static void runawaysToThoseWithNobody() {
        due.promise(7, "each of both is with nobody or likes the other more than whom it is with");
        RoomForHelp x = Due.open(1, 2);
        like(x, 0, 0, 60, 0);
        like(x, 0, 1, 59, 99);
        // With helper 1 there would be 158 likes, but the home would leave for helper 0, who is with nobody.
        expect(x, "a helper with nobody", 0, 60, 0);
        RoomForHelp y = Due.open(2, 1);
        like(y, 0, 0, 0, 60);
        like(y, 1, 0, 99, 59);
        expect(y, "a home with nobody", 0, 60, 0, -1);
    }

    private static void mostLikesOfTheStable() {
        due.promise(9, "of these the most likes (over its pairs, of both for each other, together)");
        RoomForHelp x = Due.open(2, 2);
        like(x, 0, 0, 60, 10);
        like(x, 0, 1, 50, 99);
        like(x, 1, 0, 50, 99);
        like(x, 1, 1, 60, 10);
        // Both perfect pairings are stable: 140 likes straight, 298 crossed.
        expect(x, "most likes", 0, 298, 1, 0);
    }

    /** Homes that like all alike never run away, so that every pairing of all of them is stable. */
    private static void mostLikesFirstOrLast() {
        due.promise(9, "of these the most likes (over its pairs, of both for each other, together)");
        RoomForHelp x = Due.open(1, 3);
        like(x, 0, 0, 50, 90);
        like(x, 0, 2, 50, 60);
        expect(x, "the first has the most", 0, 140, 0);
        RoomForHelp y = Due.open(4, 4);
        for (int home = 0; home < 4; home++) {
            like(y, home, 3 - home, 50, 99);
        }
        expect(y, "the last has the most", 0, 4 * 149, 3, 2, 1, 0);
    }

    private static void firstByHomes() {
        due.promise(8, "of these the first by HOMES (the lower HELPER first, none last)");
        RoomForHelp x = Due.open(3, 3);
        expect(x, "all alike", 0, 300, 0, 1, 2);
        RoomForHelp y = Due.open(6, 6);
        expect(y, "six alike", 0, 600, 0, 1, 2, 3, 4, 5);
        like(y, 5, 0, 51, 50);
        expect(y, "one is liked a bit more", 0, 601, 1, 2, 3, 4, 5, 0);
        RoomForHelp z = Due.open(2, 4);
        expect(z, "more helpers", 0, 200, 0, 1);
    }

    private static void noneLast() {
        due.promise(8, "of these the first by HOMES (the lower HELPER first, none last)");
        RoomForHelp x = Due.open(3, 2);
        expect(x, "more homes", 0, 200, 0, 1, -1);
        RoomForHelp y = Due.open(2, 1);
        expect(y, "the first home before the second", 0, 100, 0, -1);
        like(y, 1, 0, 50, 51);
        expect(y, "unless another is liked more", 0, 101, -1, 0);
    }

    private static void noLikesAtAll() {
        due.promise(7, "each of both is with nobody or likes the other more than whom it is with");
        RoomForHelp x = Due.open(2, 1);
        like(x, 0, 0, 0, 0);
        like(x, 1, 0, 0, 0);
        // Two that are with nobody run away for each other even without a like.
        expect(x, "no likes", 0, 0, 0, -1);
        like(x, 1, 0, 0, 1);
        expect(x, "the helper's like", 0, 1, -1, 0);
    }

    private static void tiesAreNoReasonToLeave() {
        due.promise(7, "each of both is with nobody or likes the other more than whom it is with");
        RoomForHelp x = Due.open(2, 2);
        like(x, 0, 0, 50, 60);
        like(x, 0, 1, 50, 90);
        like(x, 1, 0, 50, 59);
        like(x, 1, 1, 50, 50);
        // Homes like both alike, so nobody runs away and the likes decide: 249 crossed, 210 straight.
        expect(x, "ties of the homes", 0, 249, 1, 0);
        RoomForHelp y = Due.open(2, 2);
        like(y, 0, 0, 60, 50);
        like(y, 0, 1, 59, 50);
        like(y, 1, 0, 90, 50);
        like(y, 1, 1, 50, 50);
        expect(y, "ties of the helpers", 0, 249, 1, 0);
    }

    private static void onlyThoseThatCan() {
        due.promise(8, "some HOMES with a HELPER each that CAN, no HELPER with two");
        RoomForHelp x = new RoomForHelp();
        x.home(0, 0, 1, 0);
        x.home(0, 2, 0, 0);
        x.home(0, 0, 0, 20);
        x.helper(1, 2, 10, 500);
        expect(x, "none can", 0, 0, -1, -1, -1);
        x.helper(0, 0, 20, 3);
        expect(x, "the first", 0, 100, 1, -1, -1);
        x.like(2, 1, true, 51);
        expect(x, "the last", 0, 101, -1, -1, 1);
        x.weeks(3);
        expect(x, "the check's last week", 0, 101, -1, -1, 1);
        x.weeks(1);
        expect(x, "the check is over", 0, 0, -1, -1, -1);
        x.check(1, 4);
        expect(x, "the check holds", 0, 101, -1, -1, 1);
    }

    private static void onlyTheFree() {
        due.promise(8, "A PAIRING of HOMES and HELPERS that don't live with anybody");
        RoomForHelp x = Due.open(3, 3);
        x.live(1, 0);
        expect(x, "two are free", 0, 200, 1, -1, 2);
        x.notice(1);
        expect(x, "notice leaves them living", 0, 200, 1, -1, 2);
        x.weeks(1);
        expect(x, "a week ahead of the END too", 0, 200, 1, -1, 2);
        x.weeks(1);
        expect(x, "all are free again", 0, 300, 0, 1, 2);
    }

    private static void nobodyAtAll() {
        due.promise(7, "RUNAWAY pairs of THE BEST.");
        expect(Due.open(3, 0), "no helpers", 0, 0, -1, -1, -1);
        expect(Due.open(0, 6), "no homes", 0, 0, -1);
        expect(Due.open(6, 0), "six homes, no helpers", 0, 0, -1, -1, -1, -1, -1, -1);
        RoomForHelp x = Due.open(1, 1);
        x.live(0, 0);
        expect(x, "all live", 0, 0, -1);
    }

    private static void tooManyHomes() {
        due.promise(7, "NONE: more than 6 free HOMES, or free HELPERS.");
        RoomForHelp x = Due.open(7, 2);
        expect(x, "seven homes", -1, -1, -1, -1, -1, -1, -1, -1, -1);
        x.live(3, 1);
        expect(x, "six free homes", 0, 100, 0, -1, -1, -1, -1, -1, -1);
        expect(Due.open(7, 0), "seven homes, no helpers", -1, -1, -1);
        expect(Due.open(7, 6), "seven homes, six helpers", -1, -1, -1);
    }

    private static void tooManyHelpers() {
        due.promise(7, "NONE: more than 6 free HOMES, or free HELPERS.");
        RoomForHelp y = Due.open(1, 7);
        expect(y, "seven helpers", -1, -1, -1);
        y.live(0, 6);
        expect(y, "six free helpers", 0, 0, -1);
        expect(Due.open(0, 7), "no homes, seven helpers", -1, -1, -1);
        RoomForHelp z = Due.open(6, 7);
        for (int helper = 0; helper < 7; helper++) {
            z.check(helper, 0);
        }
        z.weeks(1);
        expect(z, "seven that can't are free too", -1, -1, -1);
    }

    private static void sixOfEachAtMost() {
        due.promise(9, "It is told for 6 free HOMES and 6 free HELPERS at most.");
        RoomForHelp z = Due.open(8, 8);
        expect(z, "eight of each", -1, -1, -1, -1);
        z.live(0, 0);
        expect(z, "seven of each", -1, -1, -1, -1);
        z.live(7, 7);
        expect(z, "six of each", 0, 600, -1, 1, 2, 3, 4, 5, 6, -1);
        like(z, 1, 6, 51, 51);
        expect(z, "numbers, not seats", 0, 602, -1, 6, 1, 2, 3, 4, 5, -1);
    }

    private static void tooManyAgain() {
        due.promise(9, "NONE as best().");
        RoomForHelp x = Due.open(7, 7);
        x.live(0, 0);
        expect(x, "six of each", 0, 600, -1, 1, 2, 3, 4, 5, 6);
        due.is("notice", x.notice(0), 2);
        x.weeks(1);
        expect(x, "they still live", 0, 600, -1, 1);
        x.weeks(1);
        expect(x, "seven of each once they live apart", -1, -1, -1, -1, -1, -1, -1, -1, -1);
    }

    private static void pairedForOthers() {
        due.promise(8, "NONE for others, and as best().");
        RoomForHelp x = Due.open(2, 2);
        for (int home : Due.outside(0, 1)) {
            due.is("paired(" + home + ")", x.paired(home), -1);
        }
        due.is("paired of a home to come", x.paired(5), -1);
        x.live(0, 1);
        due.is("paired of a home that isn't free", x.paired(0), -1);
        due.is("paired of the free one", x.paired(1), 0);
    }

    private static void pairedOfTheLastHome() {
        due.promise(8, "The HELPER of a free HOME in THE BEST (NONE: nobody).");
        RoomForHelp x = Due.open(8, 8);
        for (int i = 0; i < 7; i++) {
            x.live(i, i);
        }
        due.is("home 7 and helper 7", x.paired(7), 7);
        due.is("behind the last", x.paired(8), -1);
        x.check(7, 0);
        x.weeks(1);
        due.is("nobody", x.paired(7), -1);
    }

    private static void likesAtTheEnds() {
        due.promise(9, "Likes of THE BEST together.");
        RoomForHelp most = Due.open(6, 6);
        RoomForHelp least = Due.open(6, 6);
        for (int i = 0; i < 36; i++) {
            like(most, i / 6, i % 6, 99, 99);
            like(least, i / 6, i % 6, 0, 0);
        }
        expect(most, "all the likes there can be", 0, 6 * 198, 0, 1, 2, 3, 4, 5);
        expect(least, "none at all", 0, 0, 0, 1, 2, 3, 4, 5);
    }

    private static void upToTheLastCall() {
        due.promise(7, "An object is used for at most 512 calls after it has been made");
        RoomForHelp x = Due.open(6, 6);
        for (int call = 13; call <= 512; call++) {
            due.is("call " + call, call % 2 == 0 ? x.likes() : x.paired(5), call % 2 == 0 ? 600 : 5);
        }
    }
}
