import java.util.Arrays;

/**
 * Rooms for help: homes and helpers, how they are best paired, the pairs that live together by an
 * agreement, and how long pairs of a kind last. ../shared/DOC.md has the promises that it keeps.
 */
public final class RoomForHelp {
    public static final int NONE = -1;

    private static final int LAST_WEEK = 500;
    private static final int MOST_WEEKS_AT_ONCE = 100;
    private static final int KINDS = 4;
    private static final int ALL_TRAITS = 0xFFF;
    private static final int MOST_HOMES = 8;
    private static final int MOST_HELPERS = 8;
    private static final int MOST_OFFERED_HOURS = 40;
    private static final int MOST_LIKE = 99;
    private static final int FIRST_LIKE = 50;
    private static final int MOST_REPORTED_HOURS = 60;
    private static final int MOST_REPORTED_NIGHTS = 7;

    private static final int KEPT = 0;
    private static final int BROKEN = 1;
    private static final int NOT_KNOWN = 2;

    private final Home[] homes = new Home[MOST_HOMES];
    private final Helper[] helpers = new Helper[MOST_HELPERS];
    private final Lasting[] kinds = new Lasting[KINDS];
    private final Tape tape = new Tape();
    private final AgreementReader reader = new AgreementReader();
    private final BestPairing pairing = new BestPairing();
    private Terms terms = new Terms(
            AgreementReader.without(AgreementReader.HOURS),
            AgreementReader.without(AgreementReader.NIGHTS),
            AgreementReader.without(AgreementReader.NOTICE),
            AgreementReader.without(AgreementReader.TRIAL));
    private int homeCount = 0;
    private int helperCount = 0;
    private int clock = 0;

    public RoomForHelp() {
        for (int kind = 0; kind < KINDS; kind++) {
            kinds[kind] = new Lasting();
        }
    }

    // ---- homes, helpers and what they like

    public int home(int kind, int has, int bars, int hours) {
        if (!within(kind, KINDS - 1) || !areTraits(has) || !areTraits(bars)
                || !within(hours, MOST_OFFERED_HOURS) || homeCount >= MOST_HOMES) {
            return NONE;
        }
        homes[homeCount] = new Home(kind, has, bars, hours);
        homeCount++;
        return homeCount - 1;
    }

    public int helper(int has, int bars, int hours, int check) {
        if (!areTraits(has) || !areTraits(bars) || !within(hours, MOST_OFFERED_HOURS)
                || !isWeek(check) || helperCount >= MOST_HELPERS) {
            return NONE;
        }
        helpers[helperCount] = new Helper(has, bars, hours, check);
        helperCount++;
        return helperCount - 1;
    }

    public boolean check(int helper, int week) {
        Helper one = helperAt(helper);
        if (one == null || !isWeek(week)) {
            return false;
        }
        one.check = week;
        return true;
    }

    public boolean like(int home, int helper, boolean back, int v) {
        Home place = homeAt(home);
        Helper one = helperAt(helper);
        if (place == null || one == null || !within(v, MOST_LIKE)) {
            return false;
        }
        if (back) {
            one.likes[home] = v;
        } else {
            place.likes[helper] = v;
        }
        return true;
    }

    public int why(int home, int helper) {
        Home place = homeAt(home);
        Helper one = helperAt(helper);
        if (place == null || one == null) {
            return NONE;
        }
        return hindrance(place, one);
    }

    // ---- the best pairing

    public int best() {
        return findBest() ? pairing.runaways() : NONE;
    }

    public int paired(int home) {
        Home place = homeAt(home);
        if (place == null || place.pair != null || !findBest()) {
            return NONE;
        }
        return pairing.helperFor(home);
    }

    public int likes() {
        return findBest() ? pairing.likesTogether() : NONE;
    }

    // ---- living together

    public boolean live(int home, int helper) {
        Home place = homeAt(home);
        Helper one = helperAt(helper);
        if (place == null || one == null || place.pair != null || one.pair != null
                || hindrance(place, one) != 0) {
            return false;
        }
        Lasting kind = kindAt(place.kind);
        if (kind == null || kind.isFull()) {
            return false;
        }
        Pair pair = new Pair(helper, clock, terms);
        kind.add(pair);
        place.pair = pair;
        one.pair = pair;
        Arrays.fill(place.weeks, NOT_KNOWN);
        return true;
    }

    public int weeks(int n) {
        if (n < 1 || n > MOST_WEEKS_AT_ONCE || clock + n > LAST_WEEK) {
            return NONE;
        }
        clock += n;
        int ended = 0;
        for (int home = 0; home < homeCount; home++) {
            if (partAtEnd(homes[home])) {
                ended++;
            }
        }
        return ended;
    }

    // ---- the tape and the agreement

    public int feed(int a, int b, int c, int d, int e) {
        if (!tape.hasRoomFor(Tape.FED_AT_ONCE)) {
            return NONE;
        }
        tape.put(a);
        tape.put(b);
        tape.put(c);
        tape.put(d);
        tape.put(e);
        return tape.length();
    }

    public int end(int n) {
        return tape.cutTo(n) ? n : NONE;
    }

    public int agreement() {
        boolean sound = reader.read(tape);
        tape.cutTo(0);
        if (!sound) {
            return NONE;
        }
        terms = new Terms(
                reader.number(AgreementReader.HOURS),
                reader.number(AgreementReader.NIGHTS),
                reader.number(AgreementReader.NOTICE),
                reader.number(AgreementReader.TRIAL));
        return reader.clauses();
    }

    public int fault(int what) {
        if (what == 0) {
            return reader.faultKind();
        }
        return what == 1 ? reader.faultPlace() : NONE;
    }

    // ---- weeks that are kept or broken, and notice

    public boolean report(int home, int week, int hours, int nights) {
        Home place = homeAt(home);
        if (place == null || place.pair == null || !isWeekOf(place.pair, week)
                || !isNoneOrWithin(hours, MOST_REPORTED_HOURS)
                || !isNoneOrWithin(nights, MOST_REPORTED_NIGHTS)) {
            return false;
        }
        // A pair's terms never change, so what a report comes to can be kept in its stead.
        place.weeks[week] = place.pair.terms.judgementOf(hours, nights);
        return true;
    }

    public int judge(int home, int week) {
        Home place = homeAt(home);
        if (place == null || place.pair == null || !isWeekOf(place.pair, week)) {
            return NONE;
        }
        return place.weeks[week];
    }

    public int judged(int home, int what) {
        Home place = homeAt(home);
        if (place == null || place.pair == null || !within(what, NOT_KNOWN)) {
            return NONE;
        }
        int count = 0;
        for (int week = place.pair.first; week <= clock; week++) {
            if (isWeek(week) && place.weeks[week] == what) {
                count++;
            }
        }
        return count;
    }

    public int notice(int home) {
        Home place = homeAt(home);
        if (place == null || place.pair == null || place.pair.end != NONE) {
            return NONE;
        }
        int end = place.pair.endByNotice(clock);
        if (end > LAST_WEEK) {
            return NONE;
        }
        place.pair.end = end;
        partAtEnd(place);
        return end;
    }

    public int homeOf(int home, int what) {
        Home place = homeAt(home);
        if (place == null) {
            return NONE;
        }
        if (what == 0) {
            return place.kind;
        }
        return place.pair == null ? NONE : place.pair.tell(what);
    }

    // ---- how long pairs last

    public long share(int kind, int w, boolean lower) {
        Lasting pairs = kindAt(kind);
        if (pairs == null || !isWeek(w)) {
            return NONE;
        }
        Fraction left = pairs.shareAt(w, clock);
        return lower ? left.lower : left.upper;
    }

    public int until(int kind, int p) {
        Lasting pairs = kindAt(kind);
        if (pairs == null || p < 1 || p > 100) {
            return NONE;
        }
        return pairs.firstWeekBelow(p, clock);
    }

    public int lasting(int kind, int what) {
        Lasting pairs = kindAt(kind);
        if (pairs == null) {
            return NONE;
        }
        if (what == 0) {
            return pairs.size();
        }
        return what == 1 ? pairs.countEnded() : NONE;
    }

    public int about(int what) {
        switch (what) {
            case 0: return clock;
            case 1: return homeCount;
            case 2: return helperCount;
            case 3: return countLivingPairs();
            case 4: return countLapsedChecks();
            case 5: return tape.length();
            case 10: return terms.hours;
            case 11: return terms.nights;
            case 12: return terms.notice;
            case 13: return terms.trial;
            default: return NONE;
        }
    }

    // ---- what the public methods share

    private static boolean within(int value, int most) {
        return value >= 0 && value <= most;
    }

    private static boolean areTraits(int set) {
        return within(set, ALL_TRAITS);
    }

    private static boolean isWeek(int week) {
        return within(week, LAST_WEEK);
    }

    private static boolean isNoneOrWithin(int value, int most) {
        return value == NONE || within(value, most);
    }

    private Home homeAt(int home) {
        return home >= 0 && home < homeCount && home < homes.length ? homes[home] : null;
    }

    private Helper helperAt(int helper) {
        return helper >= 0 && helper < helperCount && helper < helpers.length
                ? helpers[helper] : null;
    }

    private Lasting kindAt(int kind) {
        return kind >= 0 && kind < kinds.length ? kinds[kind] : null;
    }

    private int hindrance(Home home, Helper helper) {
        if ((home.bars & helper.has) != 0) {
            return 1;
        }
        if ((helper.bars & home.has) != 0) {
            return 2;
        }
        if (home.hours > helper.hours) {
            return 3;
        }
        return holds(helper) ? 0 : 4;
    }

    private boolean holds(Helper helper) {
        return helper.check >= clock;
    }

    private boolean isWeekOf(Pair pair, int week) {
        return isWeek(week) && week >= pair.first && week <= clock;
    }

    private boolean partAtEnd(Home home) {
        if (home == null || home.pair == null || home.pair.end == NONE || home.pair.end > clock) {
            return false;
        }
        Helper helper = helperAt(home.pair.helper);
        if (helper != null) {
            helper.pair = null;
        }
        home.pair.ended = true;
        home.pair = null;
        return true;
    }

    private int countLivingPairs() {
        int count = 0;
        for (int home = 0; home < homeCount; home++) {
            Home place = homeAt(home);
            if (place != null && place.pair != null) {
                count++;
            }
        }
        return count;
    }

    private int countLapsedChecks() {
        int count = 0;
        for (int helper = 0; helper < helperCount; helper++) {
            Helper one = helperAt(helper);
            if (one != null && one.pair != null && !holds(one)) {
                count++;
            }
        }
        return count;
    }

    /** False if there are more free ones than the best pairing is told for. */
    private boolean findBest() {
        if (!gatherFree()) {
            return false;
        }
        for (int i = 0; i < pairing.homeSeats(); i++) {
            for (int j = 0; j < pairing.helperSeats(); j++) {
                letKnow(i, j);
            }
        }
        pairing.search();
        return true;
    }

    private boolean gatherFree() {
        pairing.clear();
        for (int home = 0; home < homeCount; home++) {
            Home place = homeAt(home);
            if (place != null && place.pair == null && !pairing.addHome(home)) {
                return false;
            }
        }
        for (int helper = 0; helper < helperCount; helper++) {
            Helper one = helperAt(helper);
            if (one != null && one.pair == null && !pairing.addHelper(helper)) {
                return false;
            }
        }
        return true;
    }

    private void letKnow(int homeSeat, int helperSeat) {
        int home = pairing.homeIn(homeSeat);
        int helper = pairing.helperIn(helperSeat);
        Home place = homeAt(home);
        Helper one = helperAt(helper);
        if (place != null && one != null && hindrance(place, one) == 0) {
            pairing.allow(homeSeat, helperSeat, place.likes[helper], one.likes[home]);
        }
    }

    // ---- the classes inside

    private static final class Home {
        final int kind;
        final int has;
        final int bars;
        final int hours;
        final int[] likes = new int[MOST_HELPERS];
        /** What each week of the pair that lives here came to; made once for all pairs to come. */
        final int[] weeks = new int[LAST_WEEK + 1];
        /** Null while the home is free. */
        Pair pair = null;

        Home(int kind, int has, int bars, int hours) {
            this.kind = kind;
            this.has = has;
            this.bars = bars;
            this.hours = hours;
            Arrays.fill(likes, FIRST_LIKE);
        }
    }

    private static final class Helper {
        final int has;
        final int bars;
        final int hours;
        final int[] likes = new int[MOST_HOMES];
        int check;
        /** Null while the helper is free. */
        Pair pair = null;

        Helper(int has, int bars, int hours, int check) {
            this.has = has;
            this.bars = bars;
            this.hours = hours;
            this.check = check;
            Arrays.fill(likes, FIRST_LIKE);
        }
    }

    /** What an agreement asks of a pair. */
    private static final class Terms {
        final int hours;
        final int nights;
        final int notice;
        final int trial;

        Terms(int hours, int nights, int notice, int trial) {
            this.hours = hours;
            this.nights = nights;
            this.notice = notice;
            this.trial = trial;
        }

        int judgementOf(int workedHours, int nightsAway) {
            boolean hoursKnown = workedHours != NONE;
            boolean nightsKnown = nightsAway != NONE;
            if ((hoursKnown && workedHours < hours) || (nightsKnown && nightsAway > nights)) {
                return BROKEN;
            }
            return hoursKnown && nightsKnown ? KEPT : NOT_KNOWN;
        }
    }

    /** A home and a helper that live, or lived, together. */
    private static final class Pair {
        final int helper;
        final int first;
        final Terms terms;
        /** NONE until notice is given. */
        int end = NONE;
        boolean ended = false;

        Pair(int helper, int first, Terms terms) {
            this.helper = helper;
            this.first = first;
            this.terms = terms;
        }

        int endByNotice(int clock) {
            return clock - first < terms.trial ? clock : clock + terms.notice;
        }

        int lastedBy(int clock) {
            return (ended ? end : clock) - first;
        }

        int tell(int what) {
            switch (what) {
                case 1: return helper;
                case 2: return first;
                case 3: return end;
                case 4: return terms.hours;
                case 5: return terms.nights;
                default: return NONE;
            }
        }
    }

    /** A share of 0 to 1, always in lowest terms. */
    private static final class Fraction {
        // Euclid's steps for two longs stay below this.
        private static final int MOST_DIVISIONS = 100;

        long upper = 1;
        long lower = 1;

        void multiplyBy(int part, int whole) {
            if (whole <= 0) {
                return;
            }
            upper *= part;
            lower *= whole;
            long divisor = greatestCommonDivisor(upper, lower);
            if (divisor > 1) {
                upper /= divisor;
                lower /= divisor;
            }
        }

        boolean isBelow(int hundredths) {
            return upper * 100 < lower * hundredths;
        }

        private static long greatestCommonDivisor(long a, long b) {
            long x = a;
            long y = b;
            for (int i = 0; i < MOST_DIVISIONS && y != 0; i++) {
                long rest = x % y;
                x = y;
                y = rest;
            }
            return x;
        }
    }

    /** The pairs of one kind, those that ended and those that still go on. */
    private static final class Lasting {
        private static final int MOST_PAIRS = 16;

        private final Pair[] pairs = new Pair[MOST_PAIRS];
        private int count = 0;

        boolean isFull() {
            return count >= pairs.length;
        }

        void add(Pair pair) {
            if (count < pairs.length) {
                pairs[count] = pair;
                count++;
            }
        }

        int size() {
            return count;
        }

        int countEnded() {
            int ended = 0;
            for (int i = 0; i < count; i++) {
                Pair pair = pairs[i];
                if (pair != null && pair.ended) {
                    ended++;
                }
            }
            return ended;
        }

        Fraction shareAt(int w, int clock) {
            Fraction left = new Fraction();
            int week = nextEnding(NONE, clock);
            for (int i = 0; i < MOST_PAIRS && week != NONE && week <= w; i++) {
                takeEndingsAt(week, clock, left);
                week = nextEnding(week, clock);
            }
            return left;
        }

        int firstWeekBelow(int hundredths, int clock) {
            Fraction left = new Fraction();
            // The share falls at weeks with endings alone, so no other week can be the first.
            int week = nextEnding(NONE, clock);
            for (int i = 0; i < MOST_PAIRS && week != NONE; i++) {
                takeEndingsAt(week, clock, left);
                if (left.isBelow(hundredths)) {
                    return week;
                }
                week = nextEnding(week, clock);
            }
            return NONE;
        }

        /** The least number of weeks, above the told one, that some ended pair lasted. */
        private int nextEnding(int above, int clock) {
            int least = NONE;
            for (int i = 0; i < count; i++) {
                Pair pair = pairs[i];
                if (pair != null && pair.ended) {
                    int lasted = pair.lastedBy(clock);
                    if (lasted > above && (least == NONE || lasted < least)) {
                        least = lasted;
                    }
                }
            }
            return least;
        }

        private void takeEndingsAt(int week, int clock, Fraction left) {
            int all = 0;
            int ended = 0;
            for (int i = 0; i < count; i++) {
                Pair pair = pairs[i];
                if (pair != null && pair.lastedBy(clock) >= week) {
                    all++;
                    if (pair.ended && pair.lastedBy(clock) == week) {
                        ended++;
                    }
                }
            }
            // Each later week has a smaller whole, 16 at most: the lower number is 16! at most.
            left.multiplyBy(all - ended, all);
        }
    }

    /** The bytes that wait to become the agreement. */
    private static final class Tape {
        static final int MOST_BYTES = 200;
        static final int FED_AT_ONCE = 20;
        private static final int BYTE_MASK = 255;

        private final int[] bytes = new int[MOST_BYTES];
        private int length = 0;

        int length() {
            return length;
        }

        /** NONE behind the last byte. */
        int byteAt(int place) {
            return place >= 0 && place < length && place < bytes.length ? bytes[place] : NONE;
        }

        boolean hasRoomFor(int more) {
            return length + more <= MOST_BYTES;
        }

        /** Four bytes come behind, the highest first. */
        void put(int fourBytes) {
            for (int shift = 24; shift >= 0; shift -= 8) {
                if (length < bytes.length) {
                    bytes[length] = (fourBytes >>> shift) & BYTE_MASK;
                    length++;
                }
            }
        }

        boolean cutTo(int n) {
            if (n < 0 || n > length) {
                return false;
            }
            length = n;
            return true;
        }
    }

    /** Reads an agreement's clauses from a tape, up to the first fault. */
    private static final class AgreementReader {
        static final int HOURS = 0;
        static final int NIGHTS = 1;
        static final int NOTICE = 2;
        static final int TRIAL = 3;
        private static final int WORDS = 4;
        private static final int[] MOST = {60, 7, 20, 20};
        private static final int[] WITHOUT = {0, 7, 2, 0};
        // Above every number that a clause may have, and far from where an int would wrap around.
        private static final int TOO_MUCH = 1000;

        private static final int BLANK = 32;
        private static final int NO_TOKEN = 0;
        private static final int LETTERS = 1;
        private static final int DIGITS = 2;
        private static final int SEMICOLON = 3;
        private static final int TEXT_END = 4;

        private static final int MISPLACED = 1;
        private static final int REPEATED = 2;
        private static final int OUT_OF_RANGE = 3;

        private final int[] numbers = new int[WORDS];
        private int seenWords = 0;
        private int clauses = 0;
        /** NONE until a text has been read, 0 for one without a fault. */
        private int fault = NONE;
        private int place = NONE;
        private int token = NO_TOKEN;
        private int start = 0;
        private int stop = 0;

        static int without(int word) {
            return word >= 0 && word < WITHOUT.length ? WITHOUT[word] : NONE;
        }

        private static int most(int word) {
            return word >= 0 && word < MOST.length ? MOST[word] : NONE;
        }

        private static String spelling(int word) {
            switch (word) {
                case HOURS: return "hours";
                case NIGHTS: return "nights";
                case NOTICE: return "notice";
                case TRIAL: return "trial";
                default: return "";
            }
        }

        int number(int word) {
            return word >= 0 && word < numbers.length ? numbers[word] : NONE;
        }

        int clauses() {
            return clauses;
        }

        int faultKind() {
            return fault;
        }

        int faultPlace() {
            return place;
        }

        /** True if the text has no fault. */
        boolean read(Tape tape) {
            if (tape == null) {
                return false;
            }
            forgetFormerText();
            // No word stands twice, so behind a clause of each only the end or a fault can come.
            for (int i = 0; i <= WORDS; i++) {
                step(tape);
                if (token == TEXT_END || !readClause(tape)) {
                    break;
                }
                clauses++;
            }
            return fault == 0;
        }

        private void forgetFormerText() {
            for (int word = 0; word < numbers.length; word++) {
                numbers[word] = without(word);
            }
            seenWords = 0;
            clauses = 0;
            fault = 0;
            place = NONE;
            start = 0;
            stop = 0;
        }

        /** The clause whose first token has been stepped to. */
        private boolean readClause(Tape tape) {
            int word = readWord(tape);
            if (word == NONE) {
                return false;
            }
            step(tape);
            if (!readNumber(tape, word)) {
                return false;
            }
            step(tape);
            return token == SEMICOLON || refuse(MISPLACED);
        }

        private int readWord(Tape tape) {
            int word = token == LETTERS ? wordOfToken(tape) : NONE;
            if (word == NONE) {
                refuse(MISPLACED);
                return NONE;
            }
            if ((seenWords & (1 << word)) != 0) {
                refuse(REPEATED);
                return NONE;
            }
            seenWords |= 1 << word;
            return word;
        }

        private boolean readNumber(Tape tape, int word) {
            if (token != DIGITS) {
                return refuse(MISPLACED);
            }
            int value = valueOfToken(tape);
            if (value > most(word)) {
                return refuse(OUT_OF_RANGE);
            }
            if (word >= 0 && word < numbers.length) {
                numbers[word] = value;
            }
            return true;
        }

        /** Always false, so that a reader can refuse and leave at once. */
        private boolean refuse(int kind) {
            fault = kind;
            place = start;
            return false;
        }

        private int wordOfToken(Tape tape) {
            for (int word = 0; word < WORDS; word++) {
                if (tokenSpells(tape, spelling(word))) {
                    return word;
                }
            }
            return NONE;
        }

        private boolean tokenSpells(Tape tape, String text) {
            if (stop - start != text.length()) {
                return false;
            }
            for (int i = 0; i < text.length(); i++) {
                if (tape.byteAt(start + i) != text.charAt(i)) {
                    return false;
                }
            }
            return true;
        }

        private int valueOfToken(Tape tape) {
            int value = 0;
            for (int i = start; i < stop; i++) {
                value = Math.min(value * 10 + tape.byteAt(i) - '0', TOO_MUCH);
            }
            return value;
        }

        /** Goes on to the next token, which stands from start up to stop. */
        private void step(Tape tape) {
            start = stop;
            while (start < tape.length() && tape.byteAt(start) == BLANK) {
                start++;
            }
            token = tokenBeginningWith(tape.byteAt(start));
            stop = start;
            if (token == LETTERS || token == DIGITS) {
                while (stop < tape.length() && tokenBeginningWith(tape.byteAt(stop)) == token) {
                    stop++;
                }
            } else if (token != TEXT_END) {
                stop++;
            }
        }

        private static int tokenBeginningWith(int symbol) {
            if (symbol == NONE) {
                return TEXT_END;
            }
            if ((symbol >= 'a' && symbol <= 'z') || (symbol >= 'A' && symbol <= 'Z')) {
                return LETTERS;
            }
            if (symbol >= '0' && symbol <= '9') {
                return DIGITS;
            }
            return symbol == ';' ? SEMICOLON : NO_TOKEN;
        }
    }

    /**
     * Looks for the best pairing of free homes and helpers. They sit in the order of their numbers,
     * so that the first pairing by seats is the first by homes.
     */
    private static final class BestPairing {
        static final int SEATS = 6;

        private final int[] homes = new int[SEATS];
        private final int[] helpers = new int[SEATS];
        private int homeSeats = 0;
        private int helperSeats = 0;
        /** By the home's seat and the helper's: NONE if they can't. */
        private final int[][] homeLikes = new int[SEATS][SEATS];
        private final int[][] helperLikes = new int[SEATS][SEATS];
        /** The most likes that a home's seat and those behind it could still bring. */
        private final int[] mostFrom = new int[SEATS + 1];
        private final int[] helperWith = new int[SEATS];
        private final int[] homeWith = new int[SEATS];
        private final int[] bestHelperWith = new int[SEATS];
        /** NONE until some pairing within the limit is found. */
        private int bestLikes = NONE;
        /** No pairing with more runaway pairs than this is looked at. */
        private int limit = 0;

        void clear() {
            homeSeats = 0;
            helperSeats = 0;
            for (int i = 0; i < SEATS; i++) {
                Arrays.fill(homeLikes[i], NONE);
                Arrays.fill(helperLikes[i], NONE);
            }
        }

        boolean addHome(int home) {
            if (homeSeats >= SEATS) {
                return false;
            }
            homes[homeSeats] = home;
            homeSeats++;
            return true;
        }

        boolean addHelper(int helper) {
            if (helperSeats >= SEATS) {
                return false;
            }
            helpers[helperSeats] = helper;
            helperSeats++;
            return true;
        }

        int homeSeats() {
            return homeSeats;
        }

        int helperSeats() {
            return helperSeats;
        }

        int homeIn(int seat) {
            return seat >= 0 && seat < homeSeats ? homes[seat] : NONE;
        }

        int helperIn(int seat) {
            return seat >= 0 && seat < helperSeats ? helpers[seat] : NONE;
        }

        void allow(int home, int helper, int likesHelper, int likesHome) {
            if (home >= 0 && home < homeSeats && helper >= 0 && helper < helperSeats) {
                homeLikes[home][helper] = likesHelper;
                helperLikes[home][helper] = likesHome;
            }
        }

        int runaways() {
            return limit;
        }

        int likesTogether() {
            return bestLikes;
        }

        /** The helper's number in the best pairing. */
        int helperFor(int home) {
            for (int i = 0; i < homeSeats; i++) {
                if (homes[i] == home) {
                    return helperIn(bestHelperWith[i]);
                }
            }
            return NONE;
        }

        /**
         * The limit rises until a pairing keeps to it, so every pairing that is then found has the
         * fewest runaway pairs. A stable pairing always exists: the first limit is enough, and it
         * cuts the search short.
         */
        void search() {
            reckonMostFrom();
            Arrays.fill(homeWith, NONE);
            bestLikes = NONE;
            for (int most = 0; most <= SEATS * SEATS && bestLikes == NONE; most++) {
                limit = most;
                seat(0, 0, 0);
            }
        }

        private void reckonMostFrom() {
            mostFrom[homeSeats] = 0;
            for (int home = homeSeats - 1; home >= 0; home--) {
                int most = 0;
                for (int helper = 0; helper < helperSeats; helper++) {
                    if (can(home, helper)) {
                        most = Math.max(most, bothLike(home, helper));
                    }
                }
                mostFrom[home] = mostFrom[home + 1] + most;
            }
        }

        /** Tries each helper, the lower first, then nobody, for this home and those behind it. */
        private void seat(int home, int runaways, int likes) {
            if (runaways > limit) {
                return;
            }
            if (home >= homeSeats || home >= SEATS) {
                keepIfBetter(runaways + runawaysToUnpaired(), likes);
                return;
            }
            // Of equal likes the pairing that was found first stays: only more could be better.
            if (likes + mostFrom[home] <= bestLikes) {
                return;
            }
            for (int helper = 0; helper < helperSeats; helper++) {
                if (can(home, helper) && homeWith[helper] == NONE) {
                    helperWith[home] = helper;
                    homeWith[helper] = home;
                    seat(home + 1, runaways + newRunaways(home), likes + bothLike(home, helper));
                    homeWith[helper] = NONE;
                }
            }
            helperWith[home] = NONE;
            seat(home + 1, runaways + newRunaways(home), likes);
        }

        private void keepIfBetter(int runaways, int likes) {
            if (runaways <= limit && likes > bestLikes) {
                bestLikes = likes;
                System.arraycopy(helperWith, 0, bestHelperWith, 0, SEATS);
            }
        }

        /** Runaway pairs among the seated that the home seated last is in, or its helper. */
        private int newRunaways(int last) {
            int count = 0;
            for (int helper = 0; helper < helperSeats; helper++) {
                if (homeWith[helper] != NONE && isRunaway(last, helper)) {
                    count++;
                }
            }
            int helperWithLast = helperWith[last];
            for (int home = 0; home < last && helperWithLast != NONE; home++) {
                if (isRunaway(home, helperWithLast)) {
                    count++;
                }
            }
            return count;
        }

        private int runawaysToUnpaired() {
            int count = 0;
            for (int helper = 0; helper < helperSeats; helper++) {
                for (int home = 0; home < homeSeats && homeWith[helper] == NONE; home++) {
                    if (isRunaway(home, helper)) {
                        count++;
                    }
                }
            }
            return count;
        }

        private boolean isRunaway(int home, int helper) {
            return can(home, helper) && helperWith[home] != helper
                    && homeWouldLeaveFor(home, helper) && helperWouldLeaveFor(helper, home);
        }

        private boolean homeWouldLeaveFor(int home, int helper) {
            int with = helperWith[home];
            return with == NONE || homeLikes[home][helper] > homeLikes[home][with];
        }

        private boolean helperWouldLeaveFor(int helper, int home) {
            int with = homeWith[helper];
            return with == NONE || helperLikes[home][helper] > helperLikes[with][helper];
        }

        private boolean can(int home, int helper) {
            return homeLikes[home][helper] != NONE;
        }

        private int bothLike(int home, int helper) {
            return homeLikes[home][helper] + helperLikes[home][helper];
        }
    }
}
