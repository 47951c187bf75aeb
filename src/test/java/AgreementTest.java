/** Promises 12 to 15: feed, end, agreement, fault. */
public final class AgreementTest {
    private static final Due due = new Due("AgreementTest", 12, 13, 14, 15);

    public static void main(String[] args) {
        feedUpTo200();
        feedRefusedLeavesTheTape();
        orderOfBytes();
        endOfTheTape();
        endRefusedLeavesTheTape();
        endForgetsWhatWasCut();
        soundTexts();
        numbersAtTheEnds();
        longTexts();
        emptyThen();
        theFormerStays();
        withoutClausesOnceMore();
        noTokens();
        misplaced();
        otherWords();
        atTheLength();
        repeated();
        otherNumbers();
        theFirstFault();
        theLeastOfOneToken();
        aheadOfAny();
        faultOfTheLatest();
        otherFaults();
        due.close();
    }

    // ---- promise 12

    private static void feedUpTo200() {
        due.promise(12, "NONE, and none come, if there would be more than 200.");
        RoomForHelp x = new RoomForHelp();
        for (int i = 1; i <= 10; i++) {
            due.is("feed", x.feed(-1, 0, Integer.MIN_VALUE, Integer.MAX_VALUE, 7), 20 * i);
            due.is("bytes", x.about(5), 20 * i);
        }
        due.is("to 220", x.feed(0, 0, 0, 0, 0), -1);
        due.is("none came", x.about(5), 200);
        x.end(181);
        due.is("to 201", x.feed(0, 0, 0, 0, 0), -1);
        due.is("none came", x.about(5), 181);
        x.end(180);
        due.is("to 200", x.feed(0, 0, 0, 0, 0), 200);
        due.is("bytes", x.about(5), 200);
    }

    private static void feedRefusedLeavesTheTape() {
        due.promise(12, "NONE, and none come, if there would be more than 200.");
        int x4 = Due.word("xxxx", 0);
        RoomForHelp full = new RoomForHelp();
        Due.feed(full, "hours" + " ".repeat(193) + "8;");
        due.is("more than 200", full.feed(x4, x4, x4, x4, x4), -1);
        due.is("agreement()", full.agreement(), 1);
        due.is("hours", full.about(10), 8);
        RoomForHelp x = new RoomForHelp();
        Due.feed(x, "hours" + " ".repeat(175) + "8");
        due.is("more than 200", x.feed(Due.word(";;;;", 0), x4, x4, x4, x4), -1);
        due.is("agreement()", x.agreement(), -1);
        due.is("nothing stands behind the 8", x.fault(1), 181);
    }

    private static void orderOfBytes() {
        due.promise(12, "Twenty bytes come behind the tape, the highest of a first: how many it has.");
        RoomForHelp x = new RoomForHelp();
        x.feed(Due.word("hour", 0), Due.word("s 12", 0), Due.word(";nig", 0), Due.word("hts ", 0), Due.word("3;??", 0));
        x.end(18);
        due.is("feed", x.feed(Due.word(" tri", 0), Due.word("al 5", 0), Due.word(";   ", 0), 0x20202020, 0x20202020), 38);
        due.is("clauses", x.agreement(), 3);
        due.is("hours", x.about(10), 12);
        due.is("nights", x.about(11), 3);
        due.is("trial", x.about(13), 5);
        // Bytes above 127 stay apart from those beside them.
        for (int place = 0; place < 20; place++) {
            RoomForHelp y = new RoomForHelp();
            Due.feed(y, " ".repeat(place) + "\u00ff" + " ".repeat(19 - place));
            due.is("a byte 255 at " + place, y.agreement(), -1);
            due.is("a byte 255 at " + place, y.fault(1), place);
        }
    }

    // ---- promise 13

    private static void endOfTheTape() {
        due.promise(13, "NONE, and nothing is done, if it has not so many, or n is below 0.");
        RoomForHelp x = new RoomForHelp();
        due.is("end(1) of an empty one", x.end(1), -1);
        due.is("end(0) of an empty one", x.end(0), 0);
        for (int i = 0; i < 10; i++) {
            x.feed(0, 0, 0, 0, 0);
        }
        for (int n : Due.outside(0, 200)) {
            due.is("end(" + n + ") of 200", x.end(n), -1);
            due.is("nothing was done", x.about(5), 200);
        }
        due.is("end(200)", x.end(200), 200);
        due.is("bytes", x.about(5), 200);
        due.is("end(57)", x.end(57), 57);
        due.is("bytes", x.about(5), 57);
        due.is("end(58)", x.end(58), -1);
        due.is("bytes", x.about(5), 57);
        due.is("end(0)", x.end(0), 0);
        due.is("bytes", x.about(5), 0);
    }

    private static void endRefusedLeavesTheTape() {
        due.promise(13, "NONE, and nothing is done, if it has not so many, or n is below 0.");
        RoomForHelp x = new RoomForHelp();
        Due.feed(x, "trial 7;");
        for (int n : Due.outside(0, 8)) {
            due.is("end(" + n + ") of 8", x.end(n), -1);
        }
        due.is("bytes", x.about(5), 8);
        due.is("agreement()", x.agreement(), 1);
        due.is("trial", x.about(13), 7);
    }

    private static void endForgetsWhatWasCut() {
        due.promise(13, "The tape has its first n bytes alone: n.");
        RoomForHelp x = new RoomForHelp();
        Due.feed(x, "hours 12;nights 3;");
        due.is("end(7)", x.end(7), 7);
        due.is("what was cut is gone", x.end(9), -1);
        Due.feed(x, "5;");
        due.is("agreement()", x.agreement(), 1);
        due.is("hours", x.about(10), 15);
        due.is("nights", x.about(11), 7);
    }

    // ---- promise 14

    private static void sound(String text, int clauses, int hours, int nights, int notice, int trial) {
        RoomForHelp x = new RoomForHelp();
        due.is(text + ": agreement()", Due.agree(x, text), clauses);
        due.is(text + ": fault(0)", x.fault(0), 0);
        due.is(text + ": fault(1)", x.fault(1), -1);
        due.is(text + ": the tape is empty", x.about(5), 0);
        due.is(text + ": hours", x.about(10), hours);
        due.is(text + ": nights", x.about(11), nights);
        due.is(text + ": notice", x.about(12), notice);
        due.is(text + ": trial", x.about(13), trial);
    }

    private static void faulty(String text, int fault, int place) {
        RoomForHelp x = new RoomForHelp();
        due.is(text + ": agreement()", Due.agree(x, text), -1);
        due.is(text + ": fault(0)", x.fault(0), fault);
        due.is(text + ": fault(1)", x.fault(1), place);
        due.is(text + ": the tape is empty", x.about(5), 0);
        due.is(text + ": hours stay", x.about(10), 0);
        due.is(text + ": nights stay", x.about(11), 7);
        due.is(text + ": notice stays", x.about(12), 2);
        due.is(text + ": trial stays", x.about(13), 0);
    }

    private static void soundTexts() {
        due.promise(14, "TOKENS, blanks (32) aside: letters a .. z, A .. Z one behind the other, digits one behind the "
            + "other (NUMBERS), ; {CLAUSE}, CLAUSE: WORD NUMBER ;");
        sound("", 0, 0, 7, 2, 0);
        sound(" ", 0, 0, 7, 2, 0);
        sound("hours60;", 1, 60, 7, 2, 0);
        sound("hours5;nights4;notice3;trial2;", 4, 5, 4, 3, 2);
        sound("  trial   1  ;notice2;   nights 3 ;  hours 4 ;  ", 4, 4, 3, 2, 1);
        sound("hours 0000000000000000000000042;", 1, 42, 7, 2, 0);
    }

    private static void numbersAtTheEnds() {
        due.promise(14, "hours (0 .. 60: at least so many a WEEK; without: 0), nights (0 .. 7: at most so many away; "
            + "without: 7), notice (0 .. 20 WEEKS; without: 2), trial (0 .. 20 WEEKS; without: 0).");
        sound("hours 60;", 1, 60, 7, 2, 0);
        sound("hours 0;", 1, 0, 7, 2, 0);
        sound("nights 7;", 1, 0, 7, 2, 0);
        sound("nights 0;", 1, 0, 0, 2, 0);
        sound("notice 20;", 1, 0, 7, 20, 0);
        sound("notice 0;", 1, 0, 7, 0, 0);
        sound("trial 20;", 1, 0, 7, 2, 20);
        sound("trial 0;", 1, 0, 7, 2, 0);
    }

    private static void longTexts() {
        due.promise(14, "THE AGREEMENT: a text of up to 200 bytes.");
        sound("hours " + "0".repeat(192) + "7;", 1, 7, 7, 2, 0);
        sound(" ".repeat(192) + "hours 7;", 1, 7, 7, 2, 0);
        sound(" ".repeat(200), 0, 0, 7, 2, 0);
        faulty("hours " + "9".repeat(194), 3, 6);
        faulty("hours " + "0".repeat(194), 1, 200);
        faulty("hours" + " ".repeat(195), 1, 200);
        faulty("a".repeat(200), 1, 0);
        faulty(";".repeat(200), 1, 0);
        faulty(" ".repeat(199) + ";", 1, 199);
    }

    private static void emptyThen() {
        due.promise(14, "The tape (empty then) becomes THE AGREEMENT of pairs to come: how many CLAUSES.");
        RoomForHelp x = new RoomForHelp();
        due.is("of an empty tape", x.agreement(), 0);
        due.is("bytes", x.about(5), 0);
        due.is("of a tape", Due.agree(x, "hours 6;"), 1);
        due.is("bytes", x.about(5), 0);
        due.is("end(1)", x.end(1), -1);
        due.is("of a tape with a fault", Due.agree(x, "hours 6"), -1);
        due.is("bytes", x.about(5), 0);
        Due.feed(x, ";");
        due.is("nothing stands ahead of it", x.agreement(), -1);
        due.is("nothing stands ahead of it", x.fault(1), 0);
    }

    private static void theFormerStays() {
        due.promise(14, "NONE: it has a FAULT, the former one stays.");
        RoomForHelp x = Due.open(1, 1);
        due.is("agreement()", Due.agree(x, "hours 9;nights 1;notice 5;trial 6;"), 4);
        String[] faults = {"hours 10;nights 2;notice 6;trial 7;;", "hours 10;nights 2;notice 6;trial 21;",
            "hours 10;nights 2;notice 6;trial 7;hours", "hours 10;nights 2;notice 6;trial 7", "x"};
        for (String text : faults) {
            due.is(text, Due.agree(x, text), -1);
            due.is("hours stay", x.about(10), 9);
            due.is("nights stay", x.about(11), 1);
            due.is("notice stays", x.about(12), 5);
            due.is("trial stays", x.about(13), 6);
        }
        x.live(0, 0);
        due.is("hours of a pair", x.homeOf(0, 4), 9);
        due.is("nights of a pair", x.homeOf(0, 5), 1);
        x.weeks(6);
        due.is("notice of a pair behind its trial", x.notice(0), 11);
    }

    private static void withoutClausesOnceMore() {
        due.promise(14, "(0 .. 20 WEEKS; without: 2)");
        RoomForHelp x = new RoomForHelp();
        Due.agree(x, "hours 9;nights 1;notice 5;trial 6;");
        due.is("agreement()", Due.agree(x, "nights 4;"), 1);
        due.is("hours without a clause", x.about(10), 0);
        due.is("nights", x.about(11), 4);
        due.is("notice without a clause", x.about(12), 2);
        due.is("trial without a clause", x.about(13), 0);
        due.is("of an empty tape", x.agreement(), 0);
        due.is("nights without a clause", x.about(11), 7);
    }

    // ---- promise 15

    private static void noTokens() {
        due.promise(15, "1 it can't stand there, or is none.");
        for (int symbol = 0; symbol < 256; symbol++) {
            String one = String.valueOf((char) symbol);
            boolean digit = symbol >= '0' && symbol <= '9';
            boolean letter = symbol < 128 && Character.isLetter(symbol);
            if (symbol == ' ') {
                continue;
            }
            faulty(one, 1, 0);
            faulty("hours 5;" + one, 1, 8);
            if (!digit) {
                faulty("hours " + one, 1, 6);
                // Letters go on with the word, so it is another one.
                faulty("hours" + one + "5;", 1, letter ? 0 : 5);
            }
            if (!digit && symbol != ';') {
                faulty("hours 5" + one, 1, 7);
            }
        }
    }

    private static void misplaced() {
        due.promise(15, "1 it can't stand there, or is none.");
        faulty("hours;", 1, 5);
        faulty("hours 5 5;", 1, 8);
        faulty("hours 5 nights 5;", 1, 8);
        faulty("hours 5;;", 1, 8);
        faulty("hours 5;5;", 1, 8);
        faulty(" ;", 1, 1);
        faulty(" 5 hours;", 1, 1);
        faulty("hours -5;", 1, 6);
        faulty("hours 5.5;", 1, 7);
        faulty("hours\t5;", 1, 5);
        faulty("hours 5;\n", 1, 8);
        faulty("hours 1;nights 1;notice 1;trial 1;5", 1, 34);
        faulty("hours 1;nights 1;notice 1;trial 1;;", 1, 34);
    }

    private static void otherWords() {
        due.promise(15, "1 it can't stand there, or is none.");
        faulty("hour 5;", 1, 0);
        faulty("hourss 5;", 1, 0);
        faulty("night 5;", 1, 0);
        faulty("trials 5;", 1, 0);
        faulty("hoursnights 5;", 1, 0);
        faulty("ho urs 5;", 1, 0);
        faulty("Hours 5;", 1, 0);
        faulty("HOURS 5;", 1, 0);
        // The ends of the alphabet are letters too: they belong to the word that they follow.
        for (String letter : new String[] {"a", "z", "A", "Z"}) {
            faulty("hours" + letter + " 5;", 1, 0);
            faulty("nights 5;" + letter + "hours 5;", 1, 9);
        }
        faulty("trial 3; wait 99;", 1, 9);
        faulty("hours 1;nights 1;notice 1;trial 1;x", 1, 34);
    }

    private static void atTheLength() {
        due.promise(15, "at the TOKEN's first byte (of the end at the length)");
        faulty("hours", 1, 5);
        faulty("hours   ", 1, 8);
        faulty("hours 5", 1, 7);
        faulty("hours 5 ", 1, 8);
        faulty("hours 5; trial", 1, 14);
        faulty("hours 5; trial 20   ", 1, 20);
        faulty("   hourz", 1, 3);
        faulty("hours 5;   nights   99  ;", 3, 20);
    }

    private static void repeated() {
        due.promise(15, "2 a WORD for the second time.");
        faulty("hours 5;hours 5;", 2, 8);
        faulty("nights 5;nights 5;", 2, 9);
        faulty("notice 5;notice 5;", 2, 9);
        faulty("trial 5;trial 5;", 2, 8);
        faulty("nights 5; hours 3; nights", 2, 19);
        faulty("hours 1;nights 1;notice 1;trial 1;  trial 1;", 2, 36);
        faulty("hours 1;nights 1;notice 1;trial 1;hours 1;", 2, 34);
        RoomForHelp x = new RoomForHelp();
        Due.agree(x, "hours 5;");
        due.is("the words of a former text don't count", Due.agree(x, "hours 6;"), 1);
        Due.agree(x, "hours 5;x");
        due.is("nor those of one with a fault", Due.agree(x, "hours 7;"), 1);
    }

    private static void otherNumbers() {
        due.promise(15, "3 a NUMBER that isn't one of those told.");
        faulty("hours 61;", 3, 6);
        faulty("nights 8;", 3, 7);
        faulty("notice 21;", 3, 7);
        faulty("trial 21;", 3, 6);
        faulty("hours 5;nights   10;", 3, 17);
        faulty("hours 0061;", 3, 6);
        // Numbers that would be told ones if they wrapped around, or were cut short.
        for (String number : new String[] {"256", "261", "1005", "10000", "65536", "65541", "2147483648", "4294967296",
            "4294967301", "9223372036854775808", "18446744073709551616", "18446744073709551621",
            "999999999999999999999999999999999999999999", "100000000000000000000000000000000000000000"}) {
            faulty("hours " + number + ";", 3, 6);
            faulty("trial " + number + ";", 3, 6);
        }
    }

    private static void theFirstFault() {
        due.promise(15, "FAULTS, the first as TOKENS are come to");
        faulty("hours 61", 3, 6);
        faulty("hours 99 x", 3, 6);
        faulty("hours 99;hours 5;", 3, 6);
        faulty("hours 5;hours 99;", 2, 8);
        faulty("notice 1;notice 99;", 2, 9);
        faulty("hours 5,hours 99;", 1, 7);
        faulty("trial 1;trial;", 2, 8);
        faulty("hours 5;x;hours 5;", 1, 8);
    }

    private static void theLeastOfOneToken() {
        due.promise(15, "of one the least");
        faulty("hours hours 5;", 1, 6);
        faulty("hours 5;nights hours 5;", 1, 15);
        faulty("hours 5 hours 5;", 1, 8);
        faulty("hours nights 9;", 1, 6);
        faulty("99", 1, 0);
        faulty("hours 5 99;", 1, 8);
    }

    private static void aheadOfAny() {
        due.promise(15, "NONE for others, and ahead of any.");
        RoomForHelp x = new RoomForHelp();
        due.is("ahead of any", x.fault(0), -1);
        due.is("ahead of any", x.fault(1), -1);
        Due.feed(x, "hours 5;trial 50;");
        due.is("a tape alone has none", x.fault(0), -1);
        due.is("a tape alone has none", x.fault(1), -1);
        x.agreement();
        due.is("fault", x.fault(0), 3);
        due.is("place", x.fault(1), 14);
    }

    private static void faultOfTheLatest() {
        due.promise(15, "Of the latest agreement(): 0 its FAULT (0 without), 1 its place (NONE without).");
        RoomForHelp x = new RoomForHelp();
        Due.agree(x, "hours 5;trial 50;");
        Due.feed(x, "x");
        due.is("still of the latest", x.fault(0), 3);
        due.is("still of the latest", x.fault(1), 14);
        x.end(0);
        x.agreement();
        due.is("none now", x.fault(0), 0);
        due.is("no place now", x.fault(1), -1);
        Due.agree(x, "?");
        due.is("a fault at the first byte", x.fault(0), 1);
        due.is("a fault at the first byte", x.fault(1), 0);
    }

    private static void otherFaults() {
        due.promise(15, "NONE for others, and ahead of any.");
        RoomForHelp x = new RoomForHelp();
        Due.agree(x, "x");
        for (int what : Due.outside(0, 1)) {
            due.is("fault(" + what + ")", x.fault(what), -1);
        }
    }
}
