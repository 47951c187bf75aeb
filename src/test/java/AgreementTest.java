/** Promises 12 to 15: feed, end, agreement, fault. */
public final class AgreementTest {
    private static final int MIN = Integer.MIN_VALUE;
    private static final int MAX = Integer.MAX_VALUE;
    private static final Due due = new Due("AgreementTest");

    public static void main(String[] args) {
        feedAndEnd();
        orderOfBytes();
        soundTexts();
        misplaced();
        repeated();
        outOfRange();
        theFormerStays();
        faultOfTheLatest();
        longTexts();
        due.close();
    }

    private static void feedAndEnd() {
        RoomForHelp x = new RoomForHelp();
        for (int i = 1; i <= 10; i++) {
            due.is("feed", x.feed(-1, 0, MIN, MAX, 7), 20 * i);
            due.is("bytes", x.about(5), 20 * i);
        }
        due.is("more than 200", x.feed(0, 0, 0, 0, 0), -1);
        due.is("none came", x.about(5), 200);
        due.is("end(201)", x.end(201), -1);
        due.is("end(-1)", x.end(-1), -1);
        due.is("end(MIN)", x.end(MIN), -1);
        due.is("end(MAX)", x.end(MAX), -1);
        due.is("nothing was done", x.about(5), 200);
        due.is("end(200)", x.end(200), 200);
        due.is("end(181)", x.end(181), 181);
        due.is("there would be 201", x.feed(0, 0, 0, 0, 0), -1);
        due.is("end(180)", x.end(180), 180);
        due.is("up to 200", x.feed(0, 0, 0, 0, 0), 200);
        due.is("end(0)", x.end(0), 0);
        due.is("end(1) of an empty one", x.end(1), -1);
        due.is("end(0) of an empty one", x.end(0), 0);
        due.is("bytes", x.about(5), 0);
    }

    private static void orderOfBytes() {
        RoomForHelp x = new RoomForHelp();
        x.feed(Due.word("hour", 0), Due.word("s 12", 0), Due.word(";nig", 0), Due.word("hts ", 0), Due.word("3;??", 0));
        x.end(18);
        x.feed(Due.word(" tri", 0), Due.word("al 5", 0), Due.word(";   ", 0), 0x20202020, 0x20202020);
        due.is("bytes", x.about(5), 38);
        due.is("clauses", x.agreement(), 3);
        due.is("hours", x.about(10), 12);
        due.is("nights", x.about(11), 3);
        due.is("trial", x.about(13), 5);
    }

    private static void sound(String text, int clauses, int hours, int nights, int notice, int trial) {
        RoomForHelp x = new RoomForHelp();
        Due.feed(x, text);
        due.is(text + ": agreement()", x.agreement(), clauses);
        due.is(text + ": fault(0)", x.fault(0), 0);
        due.is(text + ": fault(1)", x.fault(1), -1);
        due.is(text + ": the tape is empty", x.about(5), 0);
        due.is(text + ": hours", x.about(10), hours);
        due.is(text + ": nights", x.about(11), nights);
        due.is(text + ": notice", x.about(12), notice);
        due.is(text + ": trial", x.about(13), trial);
    }

    private static void soundTexts() {
        sound("", 0, 0, 7, 2, 0);
        sound("   ", 0, 0, 7, 2, 0);
        sound("hours60;", 1, 60, 7, 2, 0);
        sound("hours 0;", 1, 0, 7, 2, 0);
        sound("nights 7;", 1, 0, 7, 2, 0);
        sound("nights 0;", 1, 0, 0, 2, 0);
        sound("notice 20;", 1, 0, 7, 20, 0);
        sound("notice 0;", 1, 0, 7, 0, 0);
        sound("trial 20;", 1, 0, 7, 2, 20);
        sound("trial 0;", 1, 0, 7, 2, 0);
        sound("  trial   1  ;notice2;   nights 3 ;  hours 4 ;  ", 4, 4, 3, 2, 1);
        sound("hours 0000000000000000000000042;", 1, 42, 7, 2, 0);
    }

    private static void faulty(String text, int fault, int place) {
        RoomForHelp x = new RoomForHelp();
        Due.feed(x, text);
        due.is(text + ": agreement()", x.agreement(), -1);
        due.is(text + ": fault(0)", x.fault(0), fault);
        due.is(text + ": fault(1)", x.fault(1), place);
        due.is(text + ": the tape is empty", x.about(5), 0);
        due.is(text + ": hours stay", x.about(10), 0);
        due.is(text + ": nights stay", x.about(11), 7);
        due.is(text + ": notice stays", x.about(12), 2);
        due.is(text + ": trial stays", x.about(13), 0);
    }

    private static void misplaced() {
        faulty("hours", 1, 5);
        faulty("hours   ", 1, 8);
        faulty("hours 5", 1, 7);
        faulty("hours 5 ", 1, 8);
        faulty("hours;", 1, 5);
        faulty("hours 5 5;", 1, 8);
        faulty("hours 5 nights 5;", 1, 8);
        faulty("hours 5;;", 1, 8);
        faulty(" ;", 1, 1);
        faulty(" 5 hours;", 1, 1);
        faulty("hours hours 5;", 1, 6);
        faulty("hour 5;", 1, 0);
        faulty("hourss 5;", 1, 0);
        faulty("Hours 5;", 1, 0);
        // The ends of the alphabet are letters too: they belong to the word that they follow.
        for (String letter : new String[] {"a", "z", "A", "Z"}) {
            faulty("hours" + letter + " 5;", 1, 0);
            faulty("hours 5;" + letter, 1, 8);
        }
        faulty("HOURS 5;", 1, 0);
        faulty("ho urs 5;", 1, 0);
        faulty("hours -5;", 1, 6);
        faulty("hours 5,", 1, 7);
        faulty("hours\t5;", 1, 5);
        faulty("hours 5;\n", 1, 8);
        faulty("\u00e4", 1, 0);
        faulty("\u00ff", 1, 0);
        faulty("\u0000", 1, 0);
        faulty("hours 5;\u00a0", 1, 8);
        faulty("hours 5;[", 1, 8);
        faulty("hours 5;`", 1, 8);
        faulty("hours 5;{", 1, 8);
        faulty("hours 5;@", 1, 8);
        faulty("hours 5/", 1, 7);
        faulty("hours 5:", 1, 7);
        faulty("hours nights 9;", 1, 6);
        faulty("trial 3; wait 99;", 1, 9);
        faulty("hours 1;nights 1;notice 1;trial 1;x", 1, 34);
        faulty("hours 1;nights 1;notice 1;trial 1;5", 1, 34);
    }

    private static void repeated() {
        faulty("hours 5;hours 5;", 2, 8);
        faulty("nights 5; hours 3; nights", 2, 19);
        faulty("trial 1;trial;", 2, 8);
        faulty("notice 1;notice 99;", 2, 9);
        faulty("hours 1;nights 1;notice 1;trial 1;  trial 1;", 2, 36);
    }

    private static void outOfRange() {
        faulty("hours 61;", 3, 6);
        faulty("hours 61", 3, 6);
        faulty("hours 99 x", 3, 6);
        faulty("nights 8;", 3, 7);
        faulty("notice 21;", 3, 7);
        faulty("trial 21;", 3, 6);
        faulty("hours 5;nights   10;", 3, 17);
        faulty("hours 4294967296;", 3, 6);
        faulty("hours 18446744073709551616;", 3, 6);
        faulty("hours 2147483648;", 3, 6);
        faulty("hours 999999999999999999999999999999999999999999;", 3, 6);
        faulty("hours 10000;", 3, 6);
    }

    private static void theFormerStays() {
        RoomForHelp x = new RoomForHelp();
        Due.feed(x, "hours 9;nights 1;notice 5;trial 6;");
        due.is("agreement()", x.agreement(), 4);
        Due.feed(x, "hours 10;nights 2;notice 6;trial 7;;");
        due.is("agreement()", x.agreement(), -1);
        due.is("hours stay", x.about(10), 9);
        due.is("nights stay", x.about(11), 1);
        due.is("notice stays", x.about(12), 5);
        due.is("trial stays", x.about(13), 6);
        Due.feed(x, "nights 4;");
        due.is("agreement()", x.agreement(), 1);
        due.is("hours without a clause", x.about(10), 0);
        due.is("nights", x.about(11), 4);
        due.is("notice without a clause", x.about(12), 2);
        due.is("trial without a clause", x.about(13), 0);
        due.is("of an empty tape", x.agreement(), 0);
        due.is("nights without a clause", x.about(11), 7);
    }

    private static void faultOfTheLatest() {
        RoomForHelp x = new RoomForHelp();
        due.is("ahead of any", x.fault(0), -1);
        due.is("ahead of any", x.fault(1), -1);
        Due.feed(x, "hours 5;trial 50;");
        due.is("a tape alone has none", x.fault(0), -1);
        x.agreement();
        due.is("fault", x.fault(0), 3);
        due.is("place", x.fault(1), 14);
        for (int what : new int[] {-1, 2, 10, MIN, MAX}) {
            due.is("fault(" + what + ")", x.fault(what), -1);
        }
        Due.feed(x, "x");
        due.is("still of the latest", x.fault(0), 3);
        x.end(0);
        x.agreement();
        due.is("none now", x.fault(0), 0);
        due.is("no place now", x.fault(1), -1);
    }

    private static void longTexts() {
        faulty("hours " + "9".repeat(194), 3, 6);
        faulty("hours " + "0".repeat(194), 1, 200);
        sound("hours " + "0".repeat(192) + "7;", 1, 7, 7, 2, 0);
        sound(" ".repeat(200), 0, 0, 7, 2, 0);
        faulty("a".repeat(200), 1, 0);
        faulty("hours" + " ".repeat(195), 1, 200);
        faulty(";".repeat(200), 1, 0);
    }
}
