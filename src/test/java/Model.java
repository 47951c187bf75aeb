import java.math.BigInteger;
import java.nio.ByteBuffer;
import java.util.ArrayList;
import java.util.Arrays;
import java.util.HashMap;
import java.util.List;
import java.util.Map;
import java.util.regex.Matcher;
import java.util.regex.Pattern;

/**
 * The document once more, as slow and plain as can be: every answer is worked out anew from lists of
 * what was told, pairings by trying each one whole.
 */
final class Model {
    record Home(int kind, int has, int bars, int hours) { }

    static final class Helper {
        int has;
        int bars;
        int hours;
        int check;
    }

    static final class Pair {
        int home;
        int helper;
        int first;
        Map<String, Integer> terms;
        Integer end;
        Map<Integer, int[]> reports = new HashMap<>();
    }

    static final class Pairing {
        Integer[] helperOf;
        int runaways;
        int likes;
    }

    private static final Map<String, Integer> MOST = Map.of("hours", 60, "nights", 7, "notice", 20, "trial", 20);
    private static final Map<String, Integer> WITHOUT = Map.of("hours", 0, "nights", 7, "notice", 2, "trial", 0);
    private static final Pattern TOKEN = Pattern.compile(" *([a-zA-Z]+|[0-9]+|;|[^ ])", Pattern.DOTALL);

    private final List<Home> homes = new ArrayList<>();
    private final List<Helper> helpers = new ArrayList<>();
    private final List<Pair> pairs = new ArrayList<>();
    private final Map<List<Integer>, Integer> likes = new HashMap<>();
    private final StringBuilder tape = new StringBuilder();
    private Map<String, Integer> terms = WITHOUT;
    private int[] fault = null;
    private int clock = 0;

    private static boolean in(int v, int low, int high) {
        return low <= v && v <= high;
    }

    private boolean isHome(int home) {
        return in(home, 0, homes.size() - 1);
    }

    private boolean isHelper(int helper) {
        return in(helper, 0, helpers.size() - 1);
    }

    private boolean lives(Pair p) {
        return p.end == null || p.end > clock;
    }

    private int lasted(Pair p) {
        return (lives(p) ? clock : p.end) - p.first;
    }

    private Pair pairIn(int home) {
        return pairs.stream().filter(p -> p.home == home && lives(p)).findFirst().orElse(null);
    }

    private Pair pairOf(int helper) {
        return pairs.stream().filter(p -> p.helper == helper && lives(p)).findFirst().orElse(null);
    }

    int home(int kind, int has, int bars, int hours) {
        if (!in(kind, 0, 3) || !in(has, 0, 4095) || !in(bars, 0, 4095) || !in(hours, 0, 40) || homes.size() == 8) {
            return -1;
        }
        homes.add(new Home(kind, has, bars, hours));
        return homes.size() - 1;
    }

    int helper(int has, int bars, int hours, int check) {
        if (!in(has, 0, 4095) || !in(bars, 0, 4095) || !in(hours, 0, 40) || !in(check, 0, 500) || helpers.size() == 8) {
            return -1;
        }
        Helper h = new Helper();
        h.has = has;
        h.bars = bars;
        h.hours = hours;
        h.check = check;
        helpers.add(h);
        return helpers.size() - 1;
    }

    boolean check(int helper, int week) {
        if (!isHelper(helper) || !in(week, 0, 500)) {
            return false;
        }
        helpers.get(helper).check = week;
        return true;
    }

    boolean like(int home, int helper, boolean back, int v) {
        if (!isHome(home) || !isHelper(helper) || !in(v, 0, 99)) {
            return false;
        }
        likes.put(List.of(home, helper, back ? 1 : 0), v);
        return true;
    }

    private int likeOf(int home, int helper, boolean back) {
        return likes.getOrDefault(List.of(home, helper, back ? 1 : 0), 50);
    }

    int why(int home, int helper) {
        if (!isHome(home) || !isHelper(helper)) {
            return -1;
        }
        Home o = homes.get(home);
        Helper e = helpers.get(helper);
        for (int trait = 0; trait < 12; trait++) {
            if ((o.bars >> trait & 1) == 1 && (e.has >> trait & 1) == 1) {
                return 1;
            }
        }
        for (int trait = 0; trait < 12; trait++) {
            if ((e.bars >> trait & 1) == 1 && (o.has >> trait & 1) == 1) {
                return 2;
            }
        }
        return o.hours > e.hours ? 3 : clock > e.check ? 4 : 0;
    }

    // ---- the best pairing, by trying each one

    private Pairing bestPairing() {
        List<Integer> freeHomes = new ArrayList<>();
        List<Integer> freeHelpers = new ArrayList<>();
        for (int i = 0; i < homes.size(); i++) {
            if (pairIn(i) == null) {
                freeHomes.add(i);
            }
        }
        for (int i = 0; i < helpers.size(); i++) {
            if (pairOf(i) == null) {
                freeHelpers.add(i);
            }
        }
        if (freeHomes.size() > 6 || freeHelpers.size() > 6) {
            return null;
        }
        List<Integer[]> all = new ArrayList<>();
        enumerate(freeHomes, freeHelpers, 0, new Integer[8], all);
        int[][][] like = new int[8][8][2];
        boolean[][] can = new boolean[8][8];
        for (int h : freeHomes) {
            for (int k : freeHelpers) {
                like[h][k] = new int[] {likeOf(h, k, false), likeOf(h, k, true)};
                can[h][k] = why(h, k) == 0;
            }
        }
        Pairing best = null;
        for (Integer[] helperOf : all) {
            Pairing p = weigh(helperOf, freeHomes, freeHelpers, like, can);
            // They come in the document's order, so an equal one that comes later is no better.
            if (best == null || p.runaways < best.runaways || (p.runaways == best.runaways && p.likes > best.likes)) {
                best = p;
            }
        }
        return best;
    }

    private void enumerate(List<Integer> hs, List<Integer> ks, int i, Integer[] now, List<Integer[]> all) {
        if (i == hs.size()) {
            all.add(now.clone());
            return;
        }
        for (int k : ks) {
            if (why(hs.get(i), k) == 0 && !Arrays.asList(now).contains(k)) {
                now[hs.get(i)] = k;
                enumerate(hs, ks, i + 1, now, all);
                now[hs.get(i)] = null;
            }
        }
        enumerate(hs, ks, i + 1, now, all);
    }

    private static Pairing weigh(Integer[] helperOf, List<Integer> hs, List<Integer> ks, int[][][] like, boolean[][] can) {
        Integer[] homeOf = new Integer[8];
        Pairing p = new Pairing();
        p.helperOf = helperOf;
        for (int h : hs) {
            if (helperOf[h] != null) {
                homeOf[helperOf[h]] = h;
                p.likes += like[h][helperOf[h]][0] + like[h][helperOf[h]][1];
            }
        }
        for (int h : hs) {
            for (int k : ks) {
                boolean together = helperOf[h] != null && helperOf[h] == k;
                boolean homeRuns = helperOf[h] == null || like[h][k][0] > like[h][helperOf[h]][0];
                boolean helperRuns = homeOf[k] == null || like[h][k][1] > like[homeOf[k]][k][1];
                if (can[h][k] && !together && homeRuns && helperRuns) {
                    p.runaways++;
                }
            }
        }
        return p;
    }

    int best() {
        Pairing p = bestPairing();
        return p == null ? -1 : p.runaways;
    }

    int paired(int home) {
        Pairing p = bestPairing();
        return p == null || !isHome(home) || p.helperOf[home] == null ? -1 : p.helperOf[home];
    }

    int likes() {
        Pairing p = bestPairing();
        return p == null ? -1 : p.likes;
    }

    // ---- living

    boolean live(int home, int helper) {
        if (why(home, helper) != 0 || pairIn(home) != null || pairOf(helper) != null
                || lasting(homes.get(home).kind, 0) == 16) {
            return false;
        }
        Pair p = new Pair();
        p.home = home;
        p.helper = helper;
        p.first = clock;
        p.terms = terms;
        pairs.add(p);
        return true;
    }

    int weeks(int n) {
        if (!in(n, 1, 100) || clock + n > 500) {
            return -1;
        }
        int before = about(3);
        clock += n;
        return before - about(3);
    }

    int notice(int home) {
        Pair p = pairIn(home);
        if (p == null || p.end != null) {
            return -1;
        }
        int end = clock - p.first < p.terms.get("trial") ? clock : clock + p.terms.get("notice");
        if (end > 500) {
            return -1;
        }
        p.end = end;
        return end;
    }

    int homeOf(int home, int what) {
        if (!isHome(home)) {
            return -1;
        }
        Pair p = pairIn(home);
        if (what == 0) {
            return homes.get(home).kind;
        }
        if (p == null || !in(what, 1, 5)) {
            return -1;
        }
        return new int[] {p.helper, p.first, p.end == null ? -1 : p.end, p.terms.get("hours"), p.terms.get("nights")}[what - 1];
    }

    // ---- the agreement

    int feed(int a, int b, int c, int d, int e) {
        if (tape.length() > 180) {
            return -1;
        }
        for (int word : new int[] {a, b, c, d, e}) {
            for (byte x : ByteBuffer.allocate(4).putInt(word).array()) {
                tape.append((char) (x & 255));
            }
        }
        return tape.length();
    }

    int end(int n) {
        if (n < 0 || n > tape.length()) {
            return -1;
        }
        tape.setLength(n);
        return n;
    }

    int agreement() {
        String text = tape.toString();
        tape.setLength(0);
        Map<String, Integer> now = new HashMap<>();
        Matcher m = TOKEN.matcher(text);
        String word = null;
        int turn = 0;
        while (m.find()) {
            String token = m.group(1);
            int at = m.start(1);
            if (turn == 0) {
                word = token;
                if (!MOST.containsKey(token)) {
                    return fail(1, at);
                }
                if (now.containsKey(token)) {
                    return fail(2, at);
                }
            } else if (turn == 1) {
                if (!token.matches("[0-9]+")) {
                    return fail(1, at);
                }
                if (new BigInteger(token).compareTo(BigInteger.valueOf(MOST.get(word))) > 0) {
                    return fail(3, at);
                }
                now.put(word, Integer.parseInt(token));
            } else if (!token.equals(";")) {
                return fail(1, at);
            }
            turn = (turn + 1) % 3;
        }
        if (turn != 0) {
            return fail(1, text.length());
        }
        int clauses = now.size();
        WITHOUT.forEach(now::putIfAbsent);
        terms = now;
        fault = new int[] {0, -1};
        return clauses;
    }

    private int fail(int kind, int place) {
        fault = new int[] {kind, place};
        return -1;
    }

    int fault(int what) {
        return fault == null || !in(what, 0, 1) ? -1 : fault[what];
    }

    // ---- reports

    boolean report(int home, int week, int hours, int nights) {
        Pair p = pairIn(home);
        if (p == null || !in(week, p.first, clock) || !in(hours, -1, 60) || !in(nights, -1, 7)) {
            return false;
        }
        p.reports.put(week, new int[] {hours, nights});
        return true;
    }

    int judge(int home, int week) {
        Pair p = pairIn(home);
        if (p == null || !in(week, p.first, clock)) {
            return -1;
        }
        int[] r = p.reports.getOrDefault(week, new int[] {-1, -1});
        if (r[0] >= 0 && r[0] < p.terms.get("hours") || r[1] >= 0 && r[1] > p.terms.get("nights")) {
            return 1;
        }
        return r[0] >= 0 && r[1] >= 0 ? 0 : 2;
    }

    int judged(int home, int what) {
        if (pairIn(home) == null || !in(what, 0, 2)) {
            return -1;
        }
        int count = 0;
        for (int week = 0; week <= 500; week++) {
            count += judge(home, week) == what ? 1 : 0;
        }
        return count;
    }

    // ---- lasting

    private BigInteger[] shareAt(int kind, int w) {
        BigInteger up = BigInteger.ONE;
        BigInteger low = BigInteger.ONE;
        for (int t = 0; t <= w; t++) {
            int d = 0;
            int n = 0;
            for (Pair p : pairs) {
                if (homes.get(p.home).kind == kind) {
                    d += !lives(p) && lasted(p) == t ? 1 : 0;
                    n += lasted(p) >= t ? 1 : 0;
                }
            }
            if (d > 0) {
                up = up.multiply(BigInteger.valueOf(n - d));
                low = low.multiply(BigInteger.valueOf(n));
            }
        }
        BigInteger g = up.gcd(low);
        return new BigInteger[] {up.divide(g), low.divide(g)};
    }

    long share(int kind, int w, boolean lower) {
        return in(kind, 0, 3) && in(w, 0, 500) ? shareAt(kind, w)[lower ? 1 : 0].longValueExact() : -1;
    }

    int until(int kind, int p) {
        if (!in(kind, 0, 3) || !in(p, 1, 100)) {
            return -1;
        }
        for (int w = 0; w <= 500; w++) {
            BigInteger[] s = shareAt(kind, w);
            if (s[0].multiply(BigInteger.valueOf(100)).compareTo(s[1].multiply(BigInteger.valueOf(p))) < 0) {
                return w;
            }
        }
        return -1;
    }

    int lasting(int kind, int what) {
        if (!in(kind, 0, 3) || !in(what, 0, 1)) {
            return -1;
        }
        return (int) pairs.stream().filter(p -> homes.get(p.home).kind == kind && (what == 0 || !lives(p))).count();
    }

    int about(int what) {
        return switch (what) {
            case 0 -> clock;
            case 1 -> homes.size();
            case 2 -> helpers.size();
            case 3 -> (int) pairs.stream().filter(this::lives).count();
            case 4 -> (int) pairs.stream().filter(p -> lives(p) && helpers.get(p.helper).check < clock).count();
            case 5 -> tape.length();
            case 10 -> terms.get("hours");
            case 11 -> terms.get("nights");
            case 12 -> terms.get("notice");
            case 13 -> terms.get("trial");
            default -> -1;
        };
    }
}
