import java.math.BigInteger;
import java.util.ArrayList;
import java.util.HashSet;
import java.util.List;
import java.util.Set;

/**
 * The document taken at its word, without thought of speed: chances by going through all that may be known,
 * FAULT by trying whether anything behind could make it a CLASS. Random runs are held against it.
 */
final class Naive {
    static final int UNKNOWN = -1, OUTSIDE = -2, STATE = -3, FULL = -4, NONE = -9;

    /** A fraction in least terms. */
    record Part(BigInteger above, BigInteger below) {
        static final Part NOTHING = of(0, 1), WHOLE = of(1, 1);

        static Part of(long above, long below) {
            return of(BigInteger.valueOf(above), BigInteger.valueOf(below));
        }

        static Part of(BigInteger above, BigInteger below) {
            BigInteger divisor = above.gcd(below);
            return new Part(above.divide(divisor), below.divide(divisor));
        }

        Part plus(Part o) {
            return of(above.multiply(o.below).add(o.above.multiply(below)), below.multiply(o.below));
        }

        Part times(Part o) {
            return of(above.multiply(o.above), below.multiply(o.below));
        }

        Part by(Part o) {
            return of(above.multiply(o.below), below.multiply(o.above));
        }

        int compare(Part o) {
            return above.multiply(o.below).compareTo(o.above.multiply(below));
        }

        boolean isNothing() {
            return above.signum() == 0;
        }

        long told(boolean upper) {
            return (upper ? above : below).longValueExact();
        }
    }

    private record Pupil(boolean isF, int row, int column, int tenths, int needs, int dares) {
    }

    private record Tape(int hands, int taken) {
    }

    private record Trial(int hands, boolean waited) {
    }

    private record Kept(int[] dares, int[] times, long seed, int[] came) {
    }

    private final StringBuilder text = new StringBuilder();
    private List<Pupil> pupils = new ArrayList<>();
    private int[] dares = {};
    private int[] times = {};
    private long seed;
    /** Of QUESTIONS: RIGHT, not RIGHT, none TAKEN. */
    private int[] came = new int[3];
    private int mood = 5;
    private Kept[] slots = new Kept[2];
    private final List<Tape> tapes = new ArrayList<>();
    private final List<Trial> trials = new ArrayList<>();

    private static boolean in(int number, int least, int most) {
        return least <= number && number <= most;
    }

    // ---- the class

    int write(int n, long v) {
        if (!in(n, 1, 8)) {
            return OUTSIDE;
        }
        if (text.length() + n > 72) {
            return FULL;
        }
        String all = new String(new char[] {
            (char) (v >>> 56 & 255), (char) (v >>> 48 & 255), (char) (v >>> 40 & 255), (char) (v >>> 32 & 255),
            (char) (v >>> 24 & 255), (char) (v >>> 16 & 255), (char) (v >>> 8 & 255), (char) (v & 255)});
        text.append(all.substring(8 - n));
        return text.length();
    }

    int wipe() {
        int before = text.length();
        text.setLength(0);
        return before;
    }

    int fault() {
        String signs = text.toString();
        for (int end = 1; end <= signs.length(); end++) {
            if (!canBeStart(signs.substring(0, end))) {
                return end - 1;
            }
        }
        return signs.length() % 6 == 0 ? NONE : signs.length();
    }

    private static boolean canBeStart(String signs) {
        for (char letter : new char[] {'P', 'F'}) {
            for (int place = 0; place < 24; place++) {
                String behind = "" + letter + place / 6 + place % 6 + "000";
                int missing = (6 - signs.length() % 6) % 6;
                // what is missing may be any of these; the figures behind the place fit anyhow
                if (isClass(signs + behind.substring(6 - missing))) {
                    return true;
                }
            }
        }
        return false;
    }

    private static boolean isClass(String signs) {
        Set<String> places = new HashSet<>();
        for (int from = 0; from < signs.length(); from += 6) {
            String pupil = signs.substring(from, from + 6);
            if (!pupil.matches("[PF][0-3][0-5][0-9][0-9][0-9]") || !places.add(pupil.substring(1, 3))) {
                return false;
            }
        }
        return true;
    }

    int room() {
        if (fault() != NONE) {
            return STATE;
        }
        pupils = new ArrayList<>();
        for (int from = 0; from < text.length(); from += 6) {
            int[] f = text.substring(from + 1, from + 6).chars().map(sign -> sign - '0').toArray();
            pupils.add(new Pupil(text.charAt(from) == 'F', f[0], f[1], f[2], f[3], f[4]));
        }
        dares = pupils.stream().mapToInt(Pupil::dares).toArray();
        times = new int[pupils.size()];
        seed = 0;
        came = new int[3];
        slots = new Kept[2];
        return pupils.size();
    }

    private boolean lacks(int pupil) {
        return !in(pupil, 0, pupils.size() - 1);
    }

    int about(int pupil, int what) {
        if (lacks(pupil)) {
            return UNKNOWN;
        }
        if (!in(what, 0, 7)) {
            return OUTSIDE;
        }
        Pupil p = pupils.get(pupil);
        return new int[] {p.row, p.column, p.tenths, p.needs, p.dares, p.isF ? 1 : 0, dares[pupil], times[pupil]}[what];
    }

    int mood(int m) {
        if (!in(m, 0, 9)) {
            return OUTSIDE;
        }
        int before = mood;
        mood = m;
        return before;
    }

    // ---- chances

    private boolean knows(int known, int pupil) {
        return (known & 1 << pupil) != 0;
    }

    private boolean isUp(int pupil, int known, int w) {
        Pupil p = pupils.get(pupil);
        if (dares[pupil] < mood) {
            return false;
        }
        return p.isF || knows(known, pupil) && p.needs <= w;
    }

    private boolean isRight(int pupil, int known, int w) {
        return knows(known, pupil) && pupils.get(pupil).needs <= w;
    }

    private List<Integer> upOf(int known, int w) {
        List<Integer> up = new ArrayList<>();
        for (int pupil = 0; pupil < pupils.size(); pupil++) {
            if (isUp(pupil, known, w)) {
                up.add(pupil);
            }
        }
        return up;
    }

    private int states() {
        return 1 << pupils.size();
    }

    /** In how many of ten to the PUPILS ways just these know. */
    private long ways(int known) {
        long ways = 1;
        for (int pupil = 0; pupil < pupils.size(); pupil++) {
            int tenths = pupils.get(pupil).tenths;
            ways *= knows(known, pupil) ? tenths : 10 - tenths;
        }
        return ways;
    }

    private long allWays() {
        return BigInteger.TEN.pow(pupils.size()).longValueExact();
    }

    /** Sums (in tenths) how many are UP, or SILENT, in the mean. */
    private int tenthsOf(int w, boolean up) {
        BigInteger sum = BigInteger.ZERO;
        for (int known = 0; known < states(); known++) {
            long many = up ? upOf(known, w).size() : Integer.bitCount(silent(known, w));
            sum = sum.add(BigInteger.valueOf(ways(known) * many));
        }
        Part tenths = Part.of(sum.multiply(BigInteger.TEN), BigInteger.valueOf(allWays()));
        return (int) tenths.told(true);
    }

    int up(int pupil, int w) {
        if (lacks(pupil)) {
            return UNKNOWN;
        }
        if (!in(w, 0, 9)) {
            return OUTSIDE;
        }
        long sum = 0;
        for (int known = 0; known < states(); known++) {
            sum += isUp(pupil, known, w) ? ways(known) : 0;
        }
        return (int) (sum * 10 / allWays());
    }

    int mean(int w) {
        return in(w, 0, 9) ? tenthsOf(w, true) : OUTSIDE;
    }

    int quiet(int w) {
        return in(w, 0, 9) ? tenthsOf(w, false) : OUTSIDE;
    }

    private long waysOf(int w, int up, int knowing) {
        long sum = 0;
        for (int known = 0; known < states(); known++) {
            boolean these = knowing < 0 || Integer.bitCount(known) == knowing;
            sum += these && upOf(known, w).size() == up ? ways(known) : 0;
        }
        return sum;
    }

    long hands(int w, int n, boolean upper) {
        if (!in(w, 0, 9) || !in(n, 0, 12)) {
            return OUTSIDE;
        }
        return Part.of(waysOf(w, n, -1), allWays()).told(upper);
    }

    long given(int w, int h, int n, boolean upper) {
        if (!in(w, 0, 9) || !in(h, 0, 12) || !in(n, 0, 12)) {
            return OUTSIDE;
        }
        long all = waysOf(w, h, -1);
        return all == 0 ? STATE : Part.of(waysOf(w, h, n), all).told(upper);
    }

    int likely(int w, int h) {
        if (!in(w, 0, 9) || !in(h, 0, 12)) {
            return OUTSIDE;
        }
        if (waysOf(w, h, -1) == 0) {
            return STATE;
        }
        int best = 0;
        for (int n = 0; n <= 12; n++) {
            best = waysOf(w, h, n) > waysOf(w, h, best) ? n : best;
        }
        return best;
    }

    /** Who may be TAKEN, each as likely. */
    private List<Integer> candidates(int known, int w, int rule) {
        List<Integer> all = new ArrayList<>();
        for (int pupil = 0; pupil < pupils.size(); pupil++) {
            all.add(pupil);
        }
        List<Integer> some = rule == 3 ? all : upOf(known, w);
        if (rule == 0) {
            some = least(some, pupil -> pupils.get(pupil).row);
            some = least(some, pupil -> Math.abs(2 * pupils.get(pupil).column - 5));
            return least(some, pupil -> pupils.get(pupil).column);
        }
        if (rule == 1) {
            some = least(some, pupil -> pupils.get(pupil).needs);
            return least(some, pupil -> pupil);
        }
        if (rule == 4) {
            some = least(some, pupil -> times[pupil]);
            return least(some, pupil -> pupil);
        }
        return some;
    }

    private static List<Integer> least(List<Integer> some, java.util.function.IntUnaryOperator by) {
        int least = some.stream().mapToInt(pupil -> by.applyAsInt(pupil)).min().orElse(0);
        return some.stream().filter(pupil -> by.applyAsInt(pupil) == least).toList();
    }

    /** The chance that a PUPIL is TAKEN, and (if told so) that it is RIGHT too. */
    private Part chanceOf(int pupil, int w, int rule, boolean rightToo) {
        long[] waysAmong = new long[13];
        for (int known = 0; known < states(); known++) {
            List<Integer> some = candidates(known, w, rule);
            if (some.contains(pupil) && (!rightToo || isRight(pupil, known, w))) {
                waysAmong[some.size()] += ways(known);
            }
        }
        Part sum = Part.NOTHING;
        for (int among = 1; among <= 12; among++) {
            sum = sum.plus(Part.of(waysAmong[among], among));
        }
        return sum.times(Part.of(1, allWays()));
    }

    long taken(int pupil, int w, int rule, boolean upper) {
        if (lacks(pupil) || !in(rule, 0, 4)) {
            return UNKNOWN;
        }
        return in(w, 0, 9) ? chanceOf(pupil, w, rule, false).told(upper) : OUTSIDE;
    }

    long right(int w, int rule, boolean upper) {
        if (!in(rule, 0, 4)) {
            return UNKNOWN;
        }
        if (!in(w, 0, 9)) {
            return OUTSIDE;
        }
        Part sum = Part.NOTHING;
        for (int pupil = 0; pupil < pupils.size(); pupil++) {
            sum = sum.plus(chanceOf(pupil, w, rule, true));
        }
        return sum.told(upper);
    }

    int mostly(int w, int rule) {
        if (!in(rule, 0, 4)) {
            return UNKNOWN;
        }
        if (!in(w, 0, 9)) {
            return OUTSIDE;
        }
        int best = NONE;
        Part most = Part.NOTHING;
        for (int pupil = 0; pupil < pupils.size(); pupil++) {
            Part chance = chanceOf(pupil, w, rule, false);
            if (chance.compare(most) > 0) {
                most = chance;
                best = pupil;
            }
        }
        return best;
    }

    int await(int v, int c) {
        if (!in(v, 0, 99) || !in(c, 0, 99)) {
            return OUTSIDE;
        }
        int best = -1;
        Part most = Part.NOTHING;
        for (int w = 0; w <= 9; w++) {
            Part worth = Part.of(v, 1).times(Part.of(mean(w), 10)).plus(Part.of(-c * w, 1));
            if (best < 0 || worth.compare(most) > 0) {
                most = worth;
                best = w;
            }
        }
        return best;
    }

    // ---- lessons

    private boolean noState(int known, int w) {
        return !in(known, 0, states() - 1) || !in(w, 0, 9);
    }

    int raised(int known, int w) {
        return noState(known, w) ? OUTSIDE : upOf(known, w).stream().mapToInt(pupil -> 1 << pupil).sum();
    }

    int silent(int known, int w) {
        if (noState(known, w)) {
            return OUTSIDE;
        }
        int bits = 0;
        for (int pupil = 0; pupil < pupils.size(); pupil++) {
            bits += knows(known, pupil) && !isUp(pupil, known, w) ? 1 << pupil : 0;
        }
        return bits;
    }

    long seed(long x) {
        long before = seed;
        seed = x;
        return before;
    }

    private int drawn(int among) {
        BigInteger next = BigInteger.valueOf(seed).multiply(new BigInteger("6364136223846793005"))
                .add(new BigInteger("1442695040888963407")).mod(BigInteger.TWO.pow(64));
        seed = next.longValue();
        return next.divide(BigInteger.TWO.pow(33)).mod(BigInteger.valueOf(among)).intValue();
    }

    int ask(int known, int w, int rule, boolean laugh) {
        if (!in(rule, 0, 4)) {
            return UNKNOWN;
        }
        if (noState(known, w)) {
            return OUTSIDE;
        }
        List<Integer> some = candidates(known, w, rule);
        if (some.isEmpty()) {
            came[2]++;
            return NONE;
        }
        int one = rule == 2 || rule == 3 ? some.get(drawn(some.size())) : some.get(0);
        times[one]++;
        if (isRight(one, known, w)) {
            came[0]++;
            dares[one] = Math.min(dares[one] + 1, 9);
        } else {
            came[1]++;
            dares[one] = Math.max(dares[one] - (laugh ? 4 : 2), 0);
        }
        return one;
    }

    int lesson(int what) {
        if (!in(what, 0, 5)) {
            return OUTSIDE;
        }
        int never = 0;
        int most = 0;
        for (int often : times) {
            never += often == 0 ? 1 : 0;
            most = Math.max(most, often);
        }
        return new int[] {questions(), came[0], came[1], came[2], never, most}[what];
    }

    private int questions() {
        return came[0] + came[1] + came[2];
    }

    // ---- tapes

    int tape(int hands, int taken) {
        if (!in(hands, 1, 4095) || !in(taken, 0, 11) || (hands & 1 << taken) == 0) {
            return OUTSIDE;
        }
        if (tapes.size() == 12) {
            return FULL;
        }
        tapes.add(new Tape(hands, taken));
        return tapes.size();
    }

    int untape() {
        int before = tapes.size();
        tapes.clear();
        return before;
    }

    int came(int group) {
        return in(group, 0, 4095) ? (int) tapes.stream().filter(t -> (group & 1 << t.taken) != 0).count() : OUTSIDE;
    }

    private static Part ofGroup(Tape t, int group) {
        return Part.of(Integer.bitCount(t.hands & group), Integer.bitCount(t.hands));
    }

    long due(int group, boolean upper) {
        if (!in(group, 0, 4095)) {
            return OUTSIDE;
        }
        return tapes.stream().map(t -> ofGroup(t, group)).reduce(Part.NOTHING, Part::plus).told(upper);
    }

    long luck(int group, boolean upper) {
        return in(group, 0, 4095) ? luckFrom(0, came(group), group).told(upper) : OUTSIDE;
    }

    /** The chance that of the tapes from this one on at least so many of the group were taken. */
    private Part luckFrom(int from, int wanted, int group) {
        if (wanted <= 0) {
            return Part.WHOLE;
        }
        if (from == tapes.size()) {
            return Part.NOTHING;
        }
        Part hit = ofGroup(tapes.get(from), group);
        Part miss = Part.WHOLE.plus(hit.times(Part.of(-1, 1)));
        return hit.times(luckFrom(from + 1, wanted - 1, group)).plus(miss.times(luckFrom(from + 1, wanted, group)));
    }

    // ---- boards, trials, sticks

    /** Board by board: the chance that of s still to be seen just r are right. */
    private static Part seen(int n, int m, int s, int r) {
        if (r < 0 || r > m || s - r > n - m) {
            return Part.NOTHING;
        }
        Part sum = Part.WHOLE;
        // one order of them, by how many orders there are
        for (int i = 0; i < r; i++) {
            sum = sum.times(Part.of(m - i, n - i));
        }
        for (int i = 0; i < s - r; i++) {
            sum = sum.times(Part.of(n - m - i, n - r - i));
        }
        for (int i = 1; i <= r; i++) {
            sum = sum.times(Part.of(s - r + i, i));
        }
        return sum;
    }

    long boards(int n, int m, int s, int r, boolean upper) {
        if (!in(n, 1, 30) || !in(m, 0, n) || !in(s, 1, n) || !in(r, 0, s)) {
            return OUTSIDE;
        }
        return seen(n, m, s, r).told(upper);
    }

    int span(int n, int s, int r, boolean most) {
        if (!in(n, 1, 30) || !in(s, 1, n) || !in(r, 0, s)) {
            return OUTSIDE;
        }
        for (int i = 0; i <= n; i++) {
            int m = most ? n - i : i;
            if (seen(n, m, s, r).compare(Part.of(1, 20)) >= 0) {
                return m;
            }
        }
        return NONE;
    }

    int trial(int hands, boolean waited) {
        if (!in(hands, 0, 99)) {
            return OUTSIDE;
        }
        if (trials.size() == 10) {
            return FULL;
        }
        trials.add(new Trial(hands, waited));
        return trials.size();
    }

    int untrial() {
        int before = trials.size();
        trials.clear();
        return before;
    }

    long chance(boolean upper) {
        int waited = (int) trials.stream().filter(Trial::waited).count();
        int hands = trials.stream().filter(Trial::waited).mapToInt(Trial::hands).sum();
        return Part.of(deals(0, waited, hands), deals(0, waited, Integer.MIN_VALUE / 2)).told(upper);
    }

    private int deals(int from, int some, int hands) {
        if (from == trials.size()) {
            return some == 0 && hands <= 0 ? 1 : 0;
        }
        return deals(from + 1, some, hands) + deals(from + 1, some - 1, hands - trials.get(from).hands);
    }

    long until(int n, boolean upper) {
        if (!in(n, 1, 12)) {
            return OUTSIDE;
        }
        Part sum = Part.NOTHING;
        for (int had = 0; had < n; had++) {
            // the chance of a new one is (n - had) of n
            sum = sum.plus(Part.WHOLE.by(Part.of(n - had, n)));
        }
        return sum.told(upper);
    }

    // ---- slots

    int keep(int slot) {
        if (!in(slot, 0, 1)) {
            return UNKNOWN;
        }
        slots[slot] = new Kept(dares.clone(), times.clone(), seed, came.clone());
        return questions();
    }

    int again(int slot) {
        if (!in(slot, 0, 1)) {
            return UNKNOWN;
        }
        Kept kept = slots[slot];
        if (kept == null) {
            return STATE;
        }
        dares = kept.dares.clone();
        times = kept.times.clone();
        seed = kept.seed;
        came = kept.came.clone();
        return questions();
    }

    int count(int what) {
        if (!in(what, 0, 4)) {
            return OUTSIDE;
        }
        int waited = (int) trials.stream().filter(Trial::waited).count();
        return new int[] {text.length(), pupils.size(), tapes.size(), trials.size(), waited}[what];
    }
}
