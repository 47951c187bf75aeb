import java.io.IOException;
import java.nio.file.Files;
import java.nio.file.Path;
import java.util.List;

/** The example in README.md: each call stands there, with the answer that it has. */
public final class ReadmeTest {
    private static final Due due = new Due("ReadmeTest");
    private static final String COMMENT = "// ";
    private final List<String> rows;
    private int row = 0;

    private ReadmeTest(List<String> rows) {
        this.rows = rows;
    }

    public static void main(String[] args) throws IOException {
        List<String> all = Files.readAllLines(Path.of("README.md"));
        int from = all.indexOf("```java") + 1;
        int length = all.subList(from, all.size()).indexOf("```");
        ReadmeTest test = new ReadmeTest(all.subList(from, from + length));
        test.example();
        due.close();
    }

    private void example() {
        RoomForHelp room = new RoomForHelp();
        int home = room.home(0, 0b01, 0b10, 10);
        says("int home = room.home(0, 0b01, 0b10, 10);", home);
        int helper = room.helper(0, 0, 12, 40);
        says("int helper = room.helper(0, 0, 12, 40);", helper);
        says("room.why(home, helper);", room.why(home, helper));
        says("room.like(home, helper, false, 80);", room.like(home, helper, false, 80));
        says("room.best();", room.best());
        says("room.paired(home);", room.paired(home));
        says("room.likes();", room.likes());
        says("room.feed(0x6E6F7469, 0x63652033, 0x3B202020, 0x20202020, 0x20202020);",
            room.feed(0x6E6F7469, 0x63652033, 0x3B202020, 0x20202020, 0x20202020));
        says("room.end(9);", room.end(9));
        says("room.agreement();", room.agreement());
        says("room.fault(0);", room.fault(0));
        says("room.live(home, helper);", room.live(home, helper));
        says("room.report(home, 0, 11, RoomForHelp.NONE);", room.report(home, 0, 11, RoomForHelp.NONE));
        says("room.judge(home, 0);", room.judge(home, 0));
        says("room.weeks(4);", room.weeks(4));
        says("room.notice(home);", room.notice(home));
        says("room.weeks(3);", room.weeks(3));
        says("room.lasting(0, 1);", room.lasting(0, 1));
        says("room.share(0, 6, false);", room.share(0, 6, false));
        says("room.until(0, 50);", room.until(0, 50));
        nextCall();
        due.is("calls in README.md behind these", rows.size() - row, 0);
    }

    /** The next call there is this one, and what stands behind it begins with its answer. */
    private void says(String call, Object answer) {
        nextCall();
        String there = row < rows.size() ? rows.get(row) : "";
        due.yes("README.md has '" + call + "' where it has '" + there + "'", there.startsWith(call));
        String behind = there.substring(there.indexOf(COMMENT) + COMMENT.length());
        due.yes(call + " answers " + answer + ", README.md says '" + behind + "'", behind.startsWith(answer + ":"));
        row++;
    }

    private void nextCall() {
        while (row < rows.size() && !rows.get(row).matches("(int \\w+ = )?room\\..*")) {
            row++;
        }
    }
}
