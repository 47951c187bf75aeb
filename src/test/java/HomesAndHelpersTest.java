/** Promises 1 to 6: a new object, home, helper, check, like, why. */
public final class HomesAndHelpersTest {
    private static final int ALL = 0xFFF;
    private static final Due due = new Due("HomesAndHelpersTest", 1, 2, 3, 4, 5, 6);

    public static void main(String[] args) {
        newObject();
        newObjectsShareNothing();
        homeNumbers();
        homesAtTheEnds();
        otherHomes();
        ninthHome();
        helperNumbers();
        helpersAtTheEnds();
        otherHelpers();
        ninthHelper();
        checkHoldsThroughItsWeek();
        checksAtTheEnds();
        otherChecks();
        checkOfOneNotYetThere();
        likesAtFirst();
        likesAtTheEnds();
        likesOfBothSides();
        likesOfTheLastOnes();
        otherLikes();
        likesOfThoseNotYetThere();
        reasonsInTheirOrder();
        reasonsByTraits();
        reasonsByHours();
        reasonsByCheck();
        reasonsOfNoSuchOnes();
        reasonsForThoseThatLive();
        due.close();
    }

    // ---- promise 1

    private static void newObject() {
        due.promise(1, "No HOMES, HELPERS; THE AGREEMENT without CLAUSES; WEEK 0.");
        isNew(new RoomForHelp());
    }

    private static void isNew(RoomForHelp x) {
        for (int what = 0; what <= 5; what++) {
            due.is("new: about(" + what + ")", x.about(what), 0);
        }
        due.is("new: hours", x.about(10), 0);
        due.is("new: nights", x.about(11), 7);
        due.is("new: notice", x.about(12), 2);
        due.is("new: trial", x.about(13), 0);
        due.is("new: fault(0)", x.fault(0), -1);
        due.is("new: fault(1)", x.fault(1), -1);
        due.is("new: best()", x.best(), 0);
        due.is("new: likes()", x.likes(), 0);
        due.is("new: paired(0)", x.paired(0), -1);
        due.is("new: homeOf(0, 0)", x.homeOf(0, 0), -1);
        due.is("new: why(0, 0)", x.why(0, 0), -1);
        due.no("new: check(0, 0)", x.check(0, 0));
        due.no("new: like(0, 0, false, 0)", x.like(0, 0, false, 0));
        due.no("new: live(0, 0)", x.live(0, 0));
        due.no("new: report(0, 0, 0, 0)", x.report(0, 0, 0, 0));
        due.is("new: notice(0)", x.notice(0), -1);
        for (int kind = 0; kind < 4; kind++) {
            due.is("new: lasting(.., 0)", x.lasting(kind, 0), 0);
            due.is("new: lasting(.., 1)", x.lasting(kind, 1), 0);
            due.is("new: share, upper", x.share(kind, 500, false), 1);
            due.is("new: share, lower", x.share(kind, 500, true), 1);
            due.is("new: until", x.until(kind, 100), -1);
        }
    }

    private static void newObjectsShareNothing() {
        due.promise(1, "No HOMES, HELPERS; THE AGREEMENT without CLAUSES; WEEK 0.");
        RoomForHelp made = new RoomForHelp();
        RoomForHelp used = Due.open(2, 2);
        Due.agree(used, "hours 3;nights 1;notice 0;trial 5;");
        used.live(0, 0);
        used.live(1, 1);
        used.notice(1);
        used.weeks(9);
        Due.feed(used, "hours");
        isNew(made);
        isNew(new RoomForHelp());
    }

    // ---- promise 2

    private static void homeNumbers() {
        due.promise(2, "A HOME: its number.");
        RoomForHelp x = new RoomForHelp();
        for (int i = 0; i < 8; i++) {
            due.is("a wrong home ahead of home " + i, x.home(4, 0, 0, 0), -1);
            due.is("homes after a wrong one", x.about(1), i);
            due.is("home", x.home(i % 4, 0, 0, 0), i);
            due.is("its kind", x.homeOf(i, 0), i % 4);
            due.is("homes", x.about(1), i + 1);
        }
    }

    private static void homesAtTheEnds() {
        due.promise(2, "a KIND (0 .. 3), what it has and what it bars (sets of TRAITS), HOURS it needs (0 .. 40).");
        RoomForHelp x = new RoomForHelp();
        due.is("the least of all", x.home(0, 0, 0, 0), 0);
        due.is("the last kind", x.home(3, 0, 0, 0), 1);
        due.is("has all traits", x.home(0, ALL, 0, 0), 2);
        due.is("bars all traits", x.home(0, 0, ALL, 0), 3);
        due.is("needs 40 hours", x.home(0, 0, 0, 40), 4);
        due.is("the most of all", x.home(3, ALL, ALL, 40), 5);
        due.is("its kind", x.homeOf(5, 0), 3);
    }

    private static void otherHomes() {
        due.promise(2, "NONE for others, or if there are 8.");
        RoomForHelp x = new RoomForHelp();
        for (int kind : Due.outside(0, 3)) {
            due.is("kind " + kind, x.home(kind, 0, 0, 0), -1);
        }
        for (int set : Due.outside(0, ALL)) {
            due.is("has " + set, x.home(0, set, 0, 0), -1);
            due.is("bars " + set, x.home(0, 0, set, 0), -1);
        }
        due.is("has trait 12 beside others", x.home(0, 4096 + 1, 0, 0), -1);
        due.is("bars trait 12 beside others", x.home(0, 0, 4096 + 1, 0), -1);
        for (int hours : Due.outside(0, 40)) {
            due.is("hours " + hours, x.home(0, 0, 0, hours), -1);
        }
        due.is("no homes", x.about(1), 0);
        due.is("the first home", x.home(2, 0, 0, 0), 0);
        due.is("its kind", x.homeOf(0, 0), 2);
    }

    private static void ninthHome() {
        due.promise(2, "NONE for others, or if there are 8.");
        RoomForHelp x = new RoomForHelp();
        for (int i = 0; i < 8; i++) {
            x.home(1, 0, 0, 0);
        }
        due.is("a ninth home", x.home(0, 0, 0, 0), -1);
        due.is("homes", x.about(1), 8);
        due.is("kind of a ninth", x.homeOf(8, 0), -1);
        for (int i = 0; i < 8; i++) {
            due.is("kind of home " + i, x.homeOf(i, 0), 1);
        }
    }

    // ---- promise 3

    private static void helperNumbers() {
        due.promise(3, "A HELPER: its number.");
        RoomForHelp x = new RoomForHelp();
        x.home(0, 0, 0, 0);
        for (int i = 0; i < 8; i++) {
            due.is("a wrong helper ahead of helper " + i, x.helper(0, 0, 41, 0), -1);
            due.is("helpers after a wrong one", x.about(2), i);
            due.is("not there yet", x.why(0, i), -1);
            due.is("helper", x.helper(0, 0, 0, 0), i);
            due.is("now there", x.why(0, i), 0);
            due.is("helpers", x.about(2), i + 1);
        }
    }

    private static void helpersAtTheEnds() {
        due.promise(3, "what one has, what one bars, HOURS one offers (0 .. 40), a CHECK that holds through a WEEK "
            + "(0 .. 500).");
        RoomForHelp x = new RoomForHelp();
        due.is("the least of all", x.helper(0, 0, 0, 0), 0);
        due.is("has all traits", x.helper(ALL, 0, 0, 0), 1);
        due.is("bars all traits", x.helper(0, ALL, 0, 0), 2);
        due.is("offers 40 hours", x.helper(0, 0, 40, 0), 3);
        due.is("a check through 500", x.helper(0, 0, 0, 500), 4);
        due.is("the most of all", x.helper(ALL, ALL, 40, 500), 5);
    }

    private static void otherHelpers() {
        due.promise(3, "NONE for others, or if there are 8.");
        RoomForHelp x = new RoomForHelp();
        for (int set : Due.outside(0, ALL)) {
            due.is("has " + set, x.helper(set, 0, 0, 0), -1);
            due.is("bars " + set, x.helper(0, set, 0, 0), -1);
        }
        due.is("has trait 12 beside others", x.helper(4096 + 1, 0, 0, 0), -1);
        due.is("bars trait 12 beside others", x.helper(0, 4096 + 1, 0, 0), -1);
        for (int hours : Due.outside(0, 40)) {
            due.is("hours " + hours, x.helper(0, 0, hours, 0), -1);
        }
        for (int check : Due.outside(0, 500)) {
            due.is("check " + check, x.helper(0, 0, 0, check), -1);
        }
        due.is("no helpers", x.about(2), 0);
        due.is("the first helper", x.helper(0, 0, 0, 0), 0);
    }

    private static void ninthHelper() {
        due.promise(3, "NONE for others, or if there are 8.");
        RoomForHelp x = Due.open(1, 8);
        due.is("a ninth helper", x.helper(0, 0, 0, 500), -1);
        due.is("helpers", x.about(2), 8);
        due.is("why not a ninth", x.why(0, 8), -1);
        due.is("why not the eighth", x.why(0, 7), 0);
    }

    // ---- promise 4

    private static void checkHoldsThroughItsWeek() {
        due.promise(4, "A CHECK holds through a WEEK: true.");
        RoomForHelp x = new RoomForHelp();
        x.home(0, 0, 0, 0);
        x.helper(0, 0, 0, 3);
        x.helper(0, 0, 0, 3);
        x.weeks(4);
        due.is("no longer holds", x.why(0, 0), 4);
        due.yes("check", x.check(0, 5));
        due.is("holds again", x.why(0, 0), 0);
        due.is("the other's is unchanged", x.why(0, 1), 4);
        x.weeks(1);
        due.is("holds in its last week", x.why(0, 0), 0);
        x.weeks(1);
        due.is("no longer holds", x.why(0, 0), 4);
    }

    private static void checksAtTheEnds() {
        due.promise(4, "a CHECK that holds through a WEEK (0 .. 500)");
        RoomForHelp x = Due.open(1, 8);
        due.yes("check through 0", x.check(7, 0));
        due.is("holds in week 0", x.why(0, 7), 0);
        x.weeks(1);
        due.is("doesn't hold in week 1", x.why(0, 7), 4);
        due.yes("check through 500", x.check(7, 500));
        Due.pass(x, 499);
        due.is("holds in week 500", x.why(0, 7), 0);
        due.yes("check in the past", x.check(7, 499));
        due.is("doesn't hold in week 500", x.why(0, 7), 4);
        due.yes("check far in the past", x.check(7, 0));
        due.is("doesn't hold in week 500", x.why(0, 7), 4);
    }

    private static void otherChecks() {
        due.promise(4, "False for others.");
        RoomForHelp x = Due.open(1, 2);
        x.check(0, 3);
        x.check(1, 3);
        for (int helper : Due.outside(0, 1)) {
            due.no("check of helper " + helper, x.check(helper, 500));
        }
        for (int week : Due.outside(0, 500)) {
            due.no("check through week " + week, x.check(0, week));
            due.no("check through week " + week, x.check(1, week));
        }
        x.weeks(3);
        due.is("the former one holds", x.why(0, 0), 0);
        due.is("the former one holds", x.why(0, 1), 0);
        x.weeks(1);
        due.is("and no longer", x.why(0, 0), 4);
        due.is("and no longer", x.why(0, 1), 4);
    }

    private static void checkOfOneNotYetThere() {
        due.promise(4, "False for others.");
        RoomForHelp x = Due.open(1, 0);
        due.no("check of none", x.check(0, 500));
        x.helper(0, 0, 0, 0);
        x.weeks(1);
        due.is("the check that it came with", x.why(0, 0), 4);
    }

    // ---- promise 5

    private static void likesAtFirst() {
        due.promise(5, "(0 .. 99; at first 50)");
        RoomForHelp x = Due.open(1, 1);
        due.is("at first 50 each", x.likes(), 100);
        due.yes("the home's", x.like(0, 0, false, 0));
        due.is("50 of the helper", x.likes(), 50);
        RoomForHelp y = Due.open(1, 1);
        due.yes("the helper's", y.like(0, 0, true, 0));
        due.is("50 of the home", y.likes(), 50);
    }

    private static void likesAtTheEnds() {
        due.promise(5, "(0 .. 99; at first 50)");
        RoomForHelp x = Due.open(1, 1);
        due.yes("like 99", x.like(0, 0, false, 99));
        due.is("likes", x.likes(), 149);
        due.yes("like back 99", x.like(0, 0, true, 99));
        due.is("likes", x.likes(), 198);
        due.yes("like 0", x.like(0, 0, false, 0));
        due.is("likes", x.likes(), 99);
        due.yes("like back 0", x.like(0, 0, true, 0));
        due.is("likes", x.likes(), 0);
    }

    private static void likesOfBothSides() {
        due.promise(5, "LIKES of a HOME for a HELPER (back false), or of that for the HOME: true.");
        RoomForHelp x = Due.open(2, 1);
        x.like(0, 0, false, 60);
        x.like(1, 0, true, 51);
        // The helper would leave home 0 for home 1, whatever home 0 likes.
        due.is("likes", x.likes(), 101);
        due.is("paired(0)", x.paired(0), -1);
        due.is("paired(1)", x.paired(1), 0);
        RoomForHelp y = Due.open(2, 1);
        y.like(0, 0, true, 60);
        y.like(1, 0, false, 51);
        due.is("likes", y.likes(), 110);
        due.is("paired(0)", y.paired(0), 0);
        // A like stands between one home and one helper alone.
        RoomForHelp z = Due.open(2, 3);
        z.like(1, 2, true, 90);
        z.like(0, 1, false, 70);
        due.is("likes", z.likes(), 140 + 120);
        due.is("paired(0)", z.paired(0), 1);
        due.is("paired(1)", z.paired(1), 2);
    }

    private static void likesOfTheLastOnes() {
        due.promise(5, "LIKES of a HOME for a HELPER (back false), or of that for the HOME: true.");
        RoomForHelp x = Due.open(8, 8);
        due.yes("like(7, 7)", x.like(7, 7, false, 98));
        due.yes("like(7, 7) back", x.like(7, 7, true, 97));
        for (int i = 0; i < 7; i++) {
            x.live(i, i);
        }
        due.yes("likes of those that live", x.like(0, 0, true, 1));
        due.is("likes", x.likes(), 195);
    }

    private static void otherLikes() {
        due.promise(5, "False for others.");
        RoomForHelp x = Due.open(1, 1);
        x.like(0, 0, false, 20);
        x.like(0, 0, true, 4);
        for (int v : Due.outside(0, 99)) {
            due.no("like " + v, x.like(0, 0, false, v));
            due.no("like back " + v, x.like(0, 0, true, v));
        }
        for (int n : Due.outside(0, 0)) {
            due.no("home " + n, x.like(n, 0, false, 7));
            due.no("home " + n + ", back", x.like(n, 0, true, 7));
            due.no("helper " + n, x.like(0, n, false, 7));
            due.no("helper " + n + ", back", x.like(0, n, true, 7));
        }
        due.is("likes are unchanged", x.likes(), 24);
    }

    private static void likesOfThoseNotYetThere() {
        due.promise(5, "False for others.");
        RoomForHelp x = Due.open(1, 1);
        due.no("a home to come", x.like(1, 0, false, 99));
        due.no("a home to come, back", x.like(1, 0, true, 99));
        due.no("a helper to come", x.like(0, 1, false, 99));
        due.no("a helper to come, back", x.like(0, 1, true, 99));
        x.home(0, 0, 0, 0);
        x.helper(0, 0, 0, 500);
        due.is("50 each when they have come", x.likes(), 200);
        due.is("in their order", x.paired(0), 0);
    }

    // ---- promise 6

    private static void reasonsInTheirOrder() {
        due.promise(6, "WHY not is the first of 1 the HOME bars what the HELPER has, 2 the HELPER bars what the HOME has, "
            + "3 the HOME needs more HOURS, 4 the CHECK doesn't hold in the clock's WEEK; 0 they CAN.");
        RoomForHelp x = new RoomForHelp();
        x.home(0, 0b1, 0b10, 10);
        x.helper(0b10, 0b1, 9, 0);
        x.helper(0b100, 0b1, 9, 0);
        x.helper(0b100, 0b10, 9, 0);
        x.helper(0b100, 0b10, 10, 0);
        x.helper(0b100, 0b10, 11, 1);
        x.weeks(1);
        for (int helper = 0; helper < 5; helper++) {
            due.is("why(0, " + helper + ")", x.why(0, helper), (helper + 1) % 5);
        }
        x.helper(0b10, 0, 40, 500);
        x.helper(0, 0b1, 40, 500);
        due.is("the home's bar alone", x.why(0, 5), 1);
        due.is("the helper's bar alone", x.why(0, 6), 2);
    }

    private static void reasonsByTraits() {
        due.promise(6, "TRAITS 0 .. 11.");
        for (int trait = 0; trait < 12; trait++) {
            int one = 1 << trait;
            RoomForHelp x = new RoomForHelp();
            x.home(0, one, one, 0);
            x.helper(one, 0, 0, 500);
            x.helper(0, one, 0, 500);
            x.helper(ALL - one, ALL - one, 0, 500);
            due.is("trait " + trait + ", barred by the home", x.why(0, 0), 1);
            due.is("trait " + trait + ", barred by the helper", x.why(0, 1), 2);
            due.is("trait " + trait + ", against all others", x.why(0, 2), 0);
        }
    }

    private static void reasonsByHours() {
        due.promise(6, "3 the HOME needs more HOURS");
        RoomForHelp x = new RoomForHelp();
        x.home(0, 0, 0, 40);
        x.home(0, 0, 0, 0);
        x.helper(0, 0, 40, 500);
        x.helper(0, 0, 39, 500);
        x.helper(0, 0, 0, 500);
        due.is("40 of 40", x.why(0, 0), 0);
        due.is("40 of 39", x.why(0, 1), 3);
        due.is("40 of 0", x.why(0, 2), 3);
        due.is("0 of 40", x.why(1, 0), 0);
        due.is("0 of 0", x.why(1, 2), 0);
    }

    private static void reasonsByCheck() {
        due.promise(6, "4 the CHECK doesn't hold in the clock's WEEK");
        RoomForHelp x = new RoomForHelp();
        x.home(0, 0, 0, 0);
        x.helper(0, 0, 0, 0);
        x.helper(0, 0, 0, 499);
        x.helper(0, 0, 0, 500);
        due.is("through 0, in 0", x.why(0, 0), 0);
        x.weeks(1);
        due.is("through 0, in 1", x.why(0, 0), 4);
        Due.pass(x, 498);
        due.is("through 499, in 499", x.why(0, 1), 0);
        x.weeks(1);
        due.is("through 499, in 500", x.why(0, 1), 4);
        due.is("through 500, in 500", x.why(0, 2), 0);
    }

    private static void reasonsOfNoSuchOnes() {
        due.promise(6, "NONE: no such ones.");
        RoomForHelp x = Due.open(2, 3);
        for (int helper : Due.outside(0, 2)) {
            due.is("no helper " + helper, x.why(0, helper), -1);
        }
        for (int home : Due.outside(0, 1)) {
            due.is("no home " + home, x.why(home, 0), -1);
        }
        due.is("neither", x.why(2, 3), -1);
        due.is("a helper's number is no home's", x.why(2, 1), -1);
        RoomForHelp y = Due.open(8, 8);
        due.is("the last ones", y.why(7, 7), 0);
        due.is("behind the last home", y.why(8, 7), -1);
        due.is("behind the last helper", y.why(7, 8), -1);
    }

    private static void reasonsForThoseThatLive() {
        due.promise(6, "WHY they can't.");
        RoomForHelp x = Due.open(2, 2);
        x.live(0, 0);
        due.is("why of a pair that lives", x.why(0, 0), 0);
        due.is("why of one that lives and one that is free", x.why(0, 1), 0);
        due.is("why of one that lives and one that is free", x.why(1, 0), 0);
    }
}
