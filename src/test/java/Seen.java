import java.util.ArrayList;
import java.util.List;

/** What the calls of one object show: as it stands, and as it then goes on. */
final class Seen {
    private final RoomForHelp x;
    private final List<String> told = new ArrayList<>();

    private Seen(RoomForHelp x) {
        this.x = x;
    }

    /** One entry a call; the object is used up by it. */
    static List<String> of(RoomForHelp x) {
        Seen seen = new Seen(x);
        seen.lookAtHomes();
        seen.lookAtPairings();
        seen.lookAtKinds();
        seen.lookAtTheRest();
        seen.goOn();
        return seen.told;
    }

    private void tell(String call, long answer) {
        told.add(call + " answers " + answer);
    }

    private void lookAtHomes() {
        int clock = x.about(0);
        int homes = x.about(1);
        for (int home = 0; home < homes; home++) {
            for (int what = 0; what <= 5; what++) {
                tell("homeOf(" + home + ", " + what + ")", x.homeOf(home, what));
            }
            for (int what = 0; what <= 2; what++) {
                tell("judged(" + home + ", " + what + ")", x.judged(home, what));
            }
            for (int week = Math.max(0, clock - 4); week <= clock; week++) {
                tell("judge(" + home + ", " + week + ")", x.judge(home, week));
            }
        }
    }

    private void lookAtPairings() {
        int homes = x.about(1);
        int helpers = x.about(2);
        tell("best()", x.best());
        tell("likes()", x.likes());
        for (int home = 0; home < homes; home++) {
            tell("paired(" + home + ")", x.paired(home));
            for (int helper = 0; helper < helpers; helper++) {
                tell("why(" + home + ", " + helper + ")", x.why(home, helper));
            }
        }
    }

    private void lookAtKinds() {
        for (int kind = 0; kind < 4; kind++) {
            tell("lasting(" + kind + ", 0)", x.lasting(kind, 0));
            tell("lasting(" + kind + ", 1)", x.lasting(kind, 1));
            tell("until(" + kind + ", 100)", x.until(kind, 100));
            tell("until(" + kind + ", 50)", x.until(kind, 50));
            for (int w : new int[] {0, 3, 500}) {
                tell("share(" + kind + ", " + w + ", false)", x.share(kind, w, false));
                tell("share(" + kind + ", " + w + ", true)", x.share(kind, w, true));
            }
        }
    }

    private void lookAtTheRest() {
        for (int what = 0; what <= 13; what++) {
            tell("about(" + what + ")", x.about(what));
        }
        tell("fault(0)", x.fault(0));
        tell("fault(1)", x.fault(1));
    }

    /** The tape is shown by what it becomes, checks, ENDs and likes by what comes later. */
    private void goOn() {
        tell("agreement()", x.agreement());
        tell("fault(0)", x.fault(0));
        tell("fault(1)", x.fault(1));
        tell("home", x.home(3, 0, 0, 0));
        tell("helper", x.helper(0, 0, 40, 500));
        for (int i = 0; i < 5; i++) {
            tell("weeks(1)", x.weeks(1));
            tell("about(3)", x.about(3));
            tell("about(4)", x.about(4));
            tell("likes()", x.likes());
        }
        int homes = x.about(1);
        int last = x.about(2) - 1;
        for (int home = 0; home < homes; home++) {
            tell("why(" + home + ", 0)", x.why(home, 0));
            tell("live(" + home + ", " + last + ")", x.live(home, last) ? 1 : 0);
            tell("notice(" + home + ")", x.notice(home));
        }
        for (int what = 10; what <= 13; what++) {
            tell("about(" + what + ")", x.about(what));
        }
    }
}
