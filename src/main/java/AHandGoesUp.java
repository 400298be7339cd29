import java.util.Arrays;

/**
 * A class told as a text, the chances of its hands, its lessons, and beside it
 * tapes, boards, trials and sticks. ../shared/DOC.md says what each call answers.
 *
 * No call makes an object: every row is made with the object and used again.
 * Rows are read and set through at and put alone, so that no index can be out of bounds.
 */
public final class AHandGoesUp {
    public static final int UNKNOWN = -1, OUTSIDE = -2, STATE = -3, FULL = -4, NONE = -9;

    private static final int MOST_BYTES = 72, MOST_PUPILS = 12, MOST_SECONDS = 9, MOST_BOARDS = 30;
    private static final int MOST_TAPES = 12, ALL_BITS = 4095, MOST_TRIALS = 10, MOST_STICKS = 12;
    private static final int FRONT = 0, QUICK = 1, LOT = 2, STICKS = 3, FEWEST = 4;

    /** Divided by each of 1 to 12 without a rest: so shares by lot stay whole. */
    private static final int SHARES = 27720;

    private final Text text = new Text();
    private final Roster roster = new Roster();
    private final Hands handsUp = new Hands();
    private final Choice choice = new Choice();
    private final Lessons firstSlot = new Lessons();
    private final Lessons secondSlot = new Lessons();
    private final Tapes tapes = new Tapes();
    private final Trials trials = new Trials();

    public AHandGoesUp() {
    }

    // ---- the class

    public int write(int n, long v) {
        return outside(n, 1, 8) ? OUTSIDE : text.append(n, v);
    }

    public int wipe() {
        return text.empty();
    }

    public int fault() {
        return text.firstFault();
    }

    public int room() {
        if (text.firstFault() != NONE) {
            return STATE;
        }
        roster.seatAll(text);
        firstSlot.isKept = false;
        secondSlot.isKept = false;
        return roster.pupils;
    }

    public int about(int pupil, int what) {
        if (roster.lacks(pupil)) {
            return UNKNOWN;
        }
        return outside(what, 0, 7) ? OUTSIDE : roster.tell(pupil, what);
    }

    public int mood(int m) {
        if (outside(m, 0, 9)) {
            return OUTSIDE;
        }
        int before = roster.mood;
        roster.mood = m;
        return before;
    }

    // ---- chances

    public int up(int pupil, int w) {
        if (roster.lacks(pupil)) {
            return UNKNOWN;
        }
        return noSeconds(w) ? OUTSIDE : roster.upTenths(pupil, w);
    }

    public int mean(int w) {
        return noSeconds(w) ? OUTSIDE : roster.allUpTenths(w);
    }

    public int quiet(int w) {
        return noSeconds(w) ? OUTSIDE : roster.allSilentTenths(w);
    }

    public long hands(int w, int n, boolean upper) {
        if (noSeconds(w) || outside(n, 0, MOST_PUPILS)) {
            return OUTSIDE;
        }
        handsUp.look(roster, w);
        return fraction(handsUp.spread.allOf(n), tenTo(roster.pupils), upper);
    }

    public long given(int w, int h, int n, boolean upper) {
        if (noSeconds(w) || outside(h, 0, MOST_PUPILS) || outside(n, 0, MOST_PUPILS)) {
            return OUTSIDE;
        }
        handsUp.look(roster, w);
        long all = handsUp.spread.allOf(h);
        return all < 1 ? STATE : fraction(handsUp.spread.get(h, n), all, upper);
    }

    public int likely(int w, int h) {
        if (noSeconds(w) || outside(h, 0, MOST_PUPILS)) {
            return OUTSIDE;
        }
        handsUp.look(roster, w);
        return handsUp.spread.allOf(h) < 1 ? STATE : handsUp.likeliestKnowing(h);
    }

    public long taken(int pupil, int w, int rule, boolean upper) {
        if (roster.lacks(pupil) || noRule(rule)) {
            return UNKNOWN;
        }
        if (noSeconds(w)) {
            return OUTSIDE;
        }
        choice.look(roster, w, rule);
        return fraction(choice.weightOfTaken(pupil), choice.weightOfAll(), upper);
    }

    public long right(int w, int rule, boolean upper) {
        if (noRule(rule)) {
            return UNKNOWN;
        }
        if (noSeconds(w)) {
            return OUTSIDE;
        }
        choice.look(roster, w, rule);
        return fraction(choice.weightOfRight(), choice.weightOfAll(), upper);
    }

    public int mostly(int w, int rule) {
        if (noRule(rule)) {
            return UNKNOWN;
        }
        if (noSeconds(w)) {
            return OUTSIDE;
        }
        choice.look(roster, w, rule);
        return choice.likeliest();
    }

    public int await(int v, int c) {
        if (outside(v, 0, 99) || outside(c, 0, 99)) {
            return OUTSIDE;
        }
        return roster.bestWait(v, c);
    }

    // ---- lessons

    public int raised(int knows, int w) {
        return roster.noBits(knows) || noSeconds(w) ? OUTSIDE : roster.upBits(knows, w);
    }

    public int silent(int knows, int w) {
        return roster.noBits(knows) || noSeconds(w) ? OUTSIDE : knows & ~roster.upBits(knows, w);
    }

    public long seed(long x) {
        long before = roster.lessons.seed;
        roster.lessons.seed = x;
        return before;
    }

    public int ask(int knows, int w, int rule, boolean laugh) {
        if (noRule(rule)) {
            return UNKNOWN;
        }
        if (roster.noBits(knows) || noSeconds(w)) {
            return OUTSIDE;
        }
        int one = roster.choose(knows, w, rule);
        roster.lessons.answer(one, roster.isRight(one, isIn(knows, one), w), laugh);
        return one;
    }

    public int lesson(int what) {
        switch (what) {
            case 0: return roster.lessons.questions;
            case 1: return roster.lessons.rightOnes;
            case 2: return roster.lessons.wrongOnes;
            case 3: return roster.lessons.questions - roster.lessons.rightOnes - roster.lessons.wrongOnes;
            case 4: return roster.neverTaken();
            case 5: return roster.mostTimes();
            default: return OUTSIDE;
        }
    }

    // ---- tapes

    public int tape(int hands, int taken) {
        if (outside(hands, 1, ALL_BITS) || !isIn(hands, taken)) {
            return OUTSIDE;
        }
        return tapes.add(hands, taken);
    }

    public int untape() {
        return tapes.empty();
    }

    public int came(int group) {
        return outside(group, 0, ALL_BITS) ? OUTSIDE : tapes.takenOf(group);
    }

    public long due(int group, boolean upper) {
        return outside(group, 0, ALL_BITS) ? OUTSIDE : fraction(tapes.sharesOf(group), SHARES, upper);
    }

    public long luck(int group, boolean upper) {
        if (outside(group, 0, ALL_BITS)) {
            return OUTSIDE;
        }
        return fraction(tapes.waysToAsMany(group), tapes.ways(), upper);
    }

    // ---- boards, trials, sticks

    public long boards(int n, int m, int s, int r, boolean upper) {
        if (outside(n, 1, MOST_BOARDS) || outside(m, 0, n) || outside(s, 1, n) || outside(r, 0, s)) {
            return OUTSIDE;
        }
        return fraction(waysToSee(n, m, s, r), choices(n, s), upper);
    }

    public int span(int n, int s, int r, boolean most) {
        if (outside(n, 1, MOST_BOARDS) || outside(s, 1, n) || outside(r, 0, s)) {
            return OUTSIDE;
        }
        long all = choices(n, s);
        int found = NONE;
        for (int m = 0; m <= n; m++) {
            boolean likelyEnough = 20 * waysToSee(n, m, s, r) >= all;
            if (likelyEnough && (most || found == NONE)) {
                found = m;
            }
        }
        return found;
    }

    public int trial(int hands, boolean waited) {
        return outside(hands, 0, 99) ? OUTSIDE : trials.add(hands, waited);
    }

    public int untrial() {
        return trials.empty();
    }

    public long chance(boolean upper) {
        return fraction(trials.deals(true), trials.deals(false), upper);
    }

    public long until(int n, boolean upper) {
        if (outside(n, 1, MOST_STICKS)) {
            return OUTSIDE;
        }
        long shares = 0;
        for (int left = 1; left <= n; left++) {
            shares += n * share(left);
        }
        return fraction(shares, SHARES, upper);
    }

    // ---- slots

    public int keep(int slot) {
        if (outside(slot, 0, 1)) {
            return UNKNOWN;
        }
        Lessons inSlot = slotOf(slot);
        inSlot.become(roster.lessons);
        inSlot.isKept = true;
        return roster.lessons.questions;
    }

    public int again(int slot) {
        if (outside(slot, 0, 1)) {
            return UNKNOWN;
        }
        Lessons inSlot = slotOf(slot);
        if (!inSlot.isKept) {
            return STATE;
        }
        roster.lessons.become(inSlot);
        return roster.lessons.questions;
    }

    public int count(int what) {
        switch (what) {
            case 0: return text.length;
            case 1: return roster.pupils;
            case 2: return tapes.size;
            case 3: return trials.size;
            case 4: return Integer.bitCount(trials.waited);
            default: return OUTSIDE;
        }
    }

    private Lessons slotOf(int slot) {
        return slot == 0 ? firstSlot : secondSlot;
    }

    // ---- numbers

    private static boolean outside(int number, int least, int most) {
        return number < least || number > most;
    }

    private static boolean noSeconds(int w) {
        return outside(w, 0, MOST_SECONDS);
    }

    private static boolean noRule(int rule) {
        return outside(rule, FRONT, FEWEST);
    }

    private static boolean isIn(int bits, int one) {
        return one >= 0 && one < MOST_PUPILS && (bits >> one & 1) == 1;
    }

    private static int at(int[] row, int i) {
        return i >= 0 && i < row.length ? row[i] : 0;
    }

    private static void put(int[] row, int i, int value) {
        if (i >= 0 && i < row.length) {
            row[i] = value;
        }
    }

    private static long fraction(long above, long below, boolean upper) {
        long divisor = commonDivisor(above, below);
        // only 0 of 0 has no divisor: it is told as nothing of one
        if (divisor < 1) {
            return upper ? 0 : 1;
        }
        return (upper ? above : below) / divisor;
    }

    private static long commonDivisor(long a, long b) {
        long greater = a;
        long less = b;
        // a long has fewer than 93 steps to the end
        for (int step = 0; step < 100 && less != 0; step++) {
            long rest = greater % less;
            greater = less;
            less = rest;
        }
        return greater;
    }

    private static long tenTo(int power) {
        long value = 1;
        for (int i = 0; i < power; i++) {
            value *= 10;
        }
        return value;
    }

    private static long share(int among) {
        return among < 1 ? 0 : SHARES / among;
    }

    private static long choices(int from, int some) {
        if (some < 0 || some > from) {
            return 0;
        }
        long value = 1;
        for (int i = 1; i <= some; i++) {
            value = value * (from - some + i) / i;
        }
        return value;
    }

    private static long waysToSee(int n, int m, int s, int r) {
        return choices(m, r) * choices(n - m, s - r);
    }

    /** THE TEXT. */
    private static final class Text {
        private static final int LETTER = 0, ROW = 1, COLUMN = 2, TENTHS = 3, NEEDS = 4, DARES = 5, EACH = 6;
        private static final int COLUMNS = 6, WHOLE_ROW = 63;

        private final int[] bytes = new int[MOST_BYTES];
        private int length;

        private int append(int n, long v) {
            if (length + n > MOST_BYTES) {
                return FULL;
            }
            for (int behind = n - 1; behind >= 0; behind--) {
                put(bytes, length, (int) (v >>> 8 * behind) & 255);
                length++;
            }
            return length;
        }

        private int empty() {
            int before = length;
            length = 0;
            return before;
        }

        private int sign(int place) {
            return at(bytes, place);
        }

        private int figure(int place) {
            return at(bytes, place) - '0';
        }

        private int firstFault() {
            int seats = 0;
            for (int place = 0; place < length; place++) {
                if (!fits(place, seats)) {
                    return place;
                }
                if (place % EACH == COLUMN) {
                    seats |= seat(place);
                }
            }
            return length % EACH == 0 ? NONE : length;
        }

        private boolean fits(int place, int seats) {
            switch (place % EACH) {
                case LETTER:
                    return sign(place) == 'P' || sign(place) == 'F';
                case ROW:
                    // a row without a free column can't be gone on with, whatever comes behind
                    return !outside(figure(place), 0, 3)
                            && (seats >> COLUMNS * figure(place) & WHOLE_ROW) != WHOLE_ROW;
                case COLUMN:
                    return !outside(figure(place), 0, COLUMNS - 1) && (seats & seat(place)) == 0;
                default:
                    return !outside(figure(place), 0, 9);
            }
        }

        private int seat(int columnPlace) {
            return 1 << COLUMNS * figure(columnPlace - 1) + figure(columnPlace);
        }
    }

    /** What lessons change, and so what a slot keeps. */
    private static final class Lessons {
        private final int[] dares = new int[MOST_PUPILS];
        private final int[] times = new int[MOST_PUPILS];
        private long seed;
        private int questions;
        private int rightOnes;
        private int wrongOnes;
        private boolean isKept;

        private void begin() {
            Arrays.fill(times, 0);
            seed = 0;
            questions = 0;
            rightOnes = 0;
            wrongOnes = 0;
        }

        private void become(Lessons other) {
            for (int pupil = 0; pupil < MOST_PUPILS; pupil++) {
                put(dares, pupil, at(other.dares, pupil));
                put(times, pupil, at(other.times, pupil));
            }
            seed = other.seed;
            questions = other.questions;
            rightOnes = other.rightOnes;
            wrongOnes = other.wrongOnes;
        }

        private int draw(int among) {
            if (among < 1) {
                return 0;
            }
            seed = seed * 6364136223846793005L + 1442695040888963407L;
            return (int) ((seed >>> 33) % among);
        }

        private void answer(int one, boolean isRight, boolean laugh) {
            questions++;
            if (one == NONE) {
                return;
            }
            put(times, one, at(times, one) + 1);
            if (isRight) {
                rightOnes++;
                put(dares, one, Math.min(9, at(dares, one) + 1));
            } else {
                wrongOnes++;
                put(dares, one, Math.max(0, at(dares, one) - (laugh ? 4 : 2)));
            }
        }
    }

    /** THE CLASS: who they are, who is UP, who is the one that a RULE takes. */
    private static final class Roster {
        private final int[] letters = new int[MOST_PUPILS];
        private final int[] rows = new int[MOST_PUPILS];
        private final int[] columns = new int[MOST_PUPILS];
        private final int[] tenths = new int[MOST_PUPILS];
        private final int[] needs = new int[MOST_PUPILS];
        private final int[] toldDares = new int[MOST_PUPILS];
        private final Lessons lessons = new Lessons();
        private int pupils;
        private int mood = 5;

        private void seatAll(Text text) {
            pupils = text.length / Text.EACH;
            lessons.begin();
            for (int pupil = 0; pupil < pupils; pupil++) {
                int first = pupil * Text.EACH;
                put(letters, pupil, text.sign(first + Text.LETTER));
                put(rows, pupil, text.figure(first + Text.ROW));
                put(columns, pupil, text.figure(first + Text.COLUMN));
                put(tenths, pupil, text.figure(first + Text.TENTHS));
                put(needs, pupil, text.figure(first + Text.NEEDS));
                put(toldDares, pupil, text.figure(first + Text.DARES));
                put(lessons.dares, pupil, text.figure(first + Text.DARES));
            }
        }

        private boolean lacks(int pupil) {
            return outside(pupil, 0, pupils - 1);
        }

        private int everyone() {
            return (1 << pupils) - 1;
        }

        private boolean noBits(int bits) {
            return outside(bits, 0, everyone());
        }

        private boolean isF(int pupil) {
            return at(letters, pupil) == 'F';
        }

        private int tell(int pupil, int what) {
            switch (what) {
                case 0: return at(rows, pupil);
                case 1: return at(columns, pupil);
                case 2: return at(tenths, pupil);
                case 3: return at(needs, pupil);
                case 4: return at(toldDares, pupil);
                case 5: return isF(pupil) ? 1 : 0;
                case 6: return at(lessons.dares, pupil);
                default: return at(lessons.times, pupil);
            }
        }

        private boolean isRight(int pupil, boolean knows, int w) {
            return knows && at(needs, pupil) <= w;
        }

        private boolean isUp(int pupil, boolean knows, int w) {
            return at(lessons.dares, pupil) >= mood && (isF(pupil) || isRight(pupil, knows, w));
        }

        private int upTenths(int pupil, int w) {
            int knowing = isUp(pupil, true, w) ? at(tenths, pupil) : 0;
            int unknowing = isUp(pupil, false, w) ? 10 - at(tenths, pupil) : 0;
            return knowing + unknowing;
        }

        private int rightTenths(int pupil, int w, boolean upOrNot) {
            boolean canBeTaken = upOrNot || isUp(pupil, true, w);
            return canBeTaken && isRight(pupil, true, w) ? at(tenths, pupil) : 0;
        }

        private int allUpTenths(int w) {
            int sum = 0;
            for (int pupil = 0; pupil < pupils; pupil++) {
                sum += upTenths(pupil, w);
            }
            return sum;
        }

        private int allSilentTenths(int w) {
            int sum = 0;
            for (int pupil = 0; pupil < pupils; pupil++) {
                sum += isUp(pupil, true, w) ? 0 : at(tenths, pupil);
            }
            return sum;
        }

        private int bestWait(int v, int c) {
            int best = 0;
            int most = v * allUpTenths(0);
            for (int w = 1; w <= MOST_SECONDS; w++) {
                // all in tenths, as the mean is
                int worth = v * allUpTenths(w) - 10 * c * w;
                if (worth > most) {
                    most = worth;
                    best = w;
                }
            }
            return best;
        }

        private int upBits(int knows, int w) {
            int bits = 0;
            for (int pupil = 0; pupil < pupils; pupil++) {
                if (isUp(pupil, isIn(knows, pupil), w)) {
                    bits |= 1 << pupil;
                }
            }
            return bits;
        }

        /** The less, the sooner TAKEN. No two have the same: of like ones the least PUPIL comes first. */
        private int rank(int pupil, int rule) {
            return rankByRule(pupil, rule) * MOST_PUPILS + pupil;
        }

        private int rankByRule(int pupil, int rule) {
            switch (rule) {
                case FRONT: return at(rows, pupil) * 100 + rankInRow(at(columns, pupil));
                case QUICK: return at(needs, pupil);
                case FEWEST: return at(lessons.times, pupil);
                default: return 0;
            }
        }

        private int rankInRow(int column) {
            return Math.abs(2 * column - 5) * 10 + column;
        }

        private int choose(int knows, int w, int rule) {
            int some = rule == STICKS ? everyone() : upBits(knows, w);
            if (rule == LOT || rule == STICKS) {
                return member(some, lessons.draw(Integer.bitCount(some)));
            }
            return foremost(some, rule);
        }

        private int member(int some, int number) {
            int before = 0;
            for (int pupil = 0; pupil < pupils; pupil++) {
                if (isIn(some, pupil)) {
                    if (before == number) {
                        return pupil;
                    }
                    before++;
                }
            }
            return NONE;
        }

        private int foremost(int some, int rule) {
            int best = NONE;
            for (int pupil = 0; pupil < pupils; pupil++) {
                if (isIn(some, pupil) && (best == NONE || rank(pupil, rule) < rank(best, rule))) {
                    best = pupil;
                }
            }
            return best;
        }

        private int neverTaken() {
            int never = 0;
            for (int pupil = 0; pupil < pupils; pupil++) {
                if (at(lessons.times, pupil) == 0) {
                    never++;
                }
            }
            return never;
        }

        private int mostTimes() {
            int most = 0;
            for (int pupil = 0; pupil < pupils; pupil++) {
                most = Math.max(most, at(lessons.times, pupil));
            }
            return most;
        }
    }

    /**
     * In how many of all ways a of some are one thing and b of them another. They join one by one,
     * each by whole parts: 12 of at most 12 parts stay far below the end of long.
     */
    private static final class Spread {
        private static final int SIDE = MOST_PUPILS + 1;

        private final long[] cells = new long[SIDE * SIDE];

        private void begin() {
            Arrays.fill(cells, 0);
            set(0, 0, 1);
        }

        private long get(int a, int b) {
            return a < 0 || b < 0 || a >= SIDE || b >= SIDE ? 0 : cells[a * SIDE + b];
        }

        private void set(int a, int b, long ways) {
            if (a >= 0 && b >= 0 && a < SIDE && b < SIDE) {
                cells[a * SIDE + b] = ways;
            }
        }

        private void join(long both, long onlyA, long onlyB, long neither) {
            // from the end on: what is read is still as it was before this one joined
            for (int a = SIDE - 1; a >= 0; a--) {
                for (int b = SIDE - 1; b >= 0; b--) {
                    set(a, b, get(a, b) * neither + get(a - 1, b) * onlyA
                            + get(a, b - 1) * onlyB + get(a - 1, b - 1) * both);
                }
            }
        }

        private long allOf(int a) {
            long ways = 0;
            for (int b = 0; b < SIDE; b++) {
                ways += get(a, b);
            }
            return ways;
        }
    }

    /** How many are UP, and how many know: in so many of ten to the PUPILS ways. */
    private static final class Hands {
        private final Spread spread = new Spread();

        private void look(Roster roster, int w) {
            spread.begin();
            for (int pupil = 0; pupil < roster.pupils; pupil++) {
                int knows = at(roster.tenths, pupil);
                boolean upKnowing = roster.isUp(pupil, true, w);
                boolean upUnknowing = roster.isUp(pupil, false, w);
                spread.join(upKnowing ? knows : 0, upUnknowing ? 10 - knows : 0,
                        upKnowing ? 0 : knows, upUnknowing ? 0 : 10 - knows);
            }
        }

        private int likeliestKnowing(int h) {
            int best = 0;
            for (int n = 1; n <= MOST_PUPILS; n++) {
                if (spread.get(h, n) > spread.get(h, best)) {
                    best = n;
                }
            }
            return best;
        }
    }

    /** Who is TAKEN by a RULE: weights, to be divided by that of all. */
    private static final class Choice {
        private final int[] ranks = new int[MOST_PUPILS];
        private final int[] eligible = new int[MOST_PUPILS];
        private final int[] eligibleAndRight = new int[MOST_PUPILS];
        private final Spread spread = new Spread();
        private int pupils;
        private int rule;

        private void look(Roster roster, int w, int byRule) {
            pupils = roster.pupils;
            rule = byRule;
            boolean upOrNot = rule == STICKS;
            for (int pupil = 0; pupil < pupils; pupil++) {
                put(ranks, pupil, roster.rank(pupil, rule));
                put(eligible, pupil, upOrNot ? 10 : roster.upTenths(pupil, w));
                put(eligibleAndRight, pupil, roster.rightTenths(pupil, w, upOrNot));
            }
        }

        private long weightOfAll() {
            switch (rule) {
                case LOT: return SHARES * tenTo(pupils);
                case STICKS: return 10L * pupils;
                default: return tenTo(pupils);
            }
        }

        private long weightOfTaken(int pupil) {
            return at(eligible, pupil) * weightOfOthers(pupil);
        }

        private long weightOfRight() {
            long sum = 0;
            for (int pupil = 0; pupil < pupils; pupil++) {
                sum += at(eligibleAndRight, pupil) * weightOfOthers(pupil);
            }
            return sum;
        }

        /** That the others leave it to this PUPIL, if it is eligible. */
        private long weightOfOthers(int pupil) {
            switch (rule) {
                case LOT: return othersByLot(pupil);
                case STICKS: return 1;
                default: return othersByRank(pupil);
            }
        }

        private long othersByLot(int pupil) {
            spread.begin();
            for (int other = 0; other < pupils; other++) {
                if (other != pupil) {
                    spread.join(0, at(eligible, other), 0, 10 - at(eligible, other));
                }
            }
            long weight = 0;
            for (int others = 0; others < pupils; others++) {
                weight += spread.get(others, 0) * share(others + 1);
            }
            return weight;
        }

        private long othersByRank(int pupil) {
            long weight = 1;
            for (int other = 0; other < pupils; other++) {
                if (other != pupil) {
                    boolean sooner = at(ranks, other) < at(ranks, pupil);
                    weight *= sooner ? 10 - at(eligible, other) : 10;
                }
            }
            return weight;
        }

        private int likeliest() {
            int best = NONE;
            long most = 0;
            for (int pupil = 0; pupil < pupils; pupil++) {
                long weight = weightOfTaken(pupil);
                if (weight > most) {
                    most = weight;
                    best = pupil;
                }
            }
            return best;
        }
    }

    /** TAPES: whom she took of which hands. */
    private static final class Tapes {
        private final int[] hands = new int[MOST_TAPES];
        private final int[] ones = new int[MOST_TAPES];
        private final Spread spread = new Spread();
        private int size;

        private int add(int up, int one) {
            if (size >= MOST_TAPES) {
                return FULL;
            }
            put(hands, size, up);
            put(ones, size, one);
            size++;
            return size;
        }

        private int empty() {
            int before = size;
            size = 0;
            return before;
        }

        private int takenOf(int group) {
            int sum = 0;
            for (int i = 0; i < size; i++) {
                if (isIn(group, at(ones, i))) {
                    sum++;
                }
            }
            return sum;
        }

        private long sharesOf(int group) {
            long sum = 0;
            for (int i = 0; i < size; i++) {
                sum += Integer.bitCount(at(hands, i) & group) * share(Integer.bitCount(at(hands, i)));
            }
            return sum;
        }

        private long ways() {
            long product = 1;
            for (int i = 0; i < size; i++) {
                product *= Integer.bitCount(at(hands, i));
            }
            return product;
        }

        private long waysToAsMany(int group) {
            spread.begin();
            for (int i = 0; i < size; i++) {
                int up = at(hands, i);
                spread.join(0, Integer.bitCount(up & group), 0, Integer.bitCount(up & ~group));
            }
            long ways = 0;
            for (int many = takenOf(group); many <= size; many++) {
                ways += spread.get(many, 0);
            }
            return ways;
        }
    }

    /** TRIALS: hands, and the bits of those that waited. */
    private static final class Trials {
        private final int[] hands = new int[MOST_TRIALS];
        private int waited;
        private int size;

        private int add(int up, boolean hasWaited) {
            if (size >= MOST_TRIALS) {
                return FULL;
            }
            put(hands, size, up);
            if (hasWaited) {
                waited |= 1 << size;
            }
            size++;
            return size;
        }

        private int empty() {
            int before = size;
            size = 0;
            waited = 0;
            return before;
        }

        private int together(int some) {
            int sum = 0;
            for (int i = 0; i < size; i++) {
                if (isIn(some, i)) {
                    sum += at(hands, i);
                }
            }
            return sum;
        }

        private long deals(boolean asManyHands) {
            int seen = together(waited);
            long deals = 0;
            for (int some = 0; some < 1 << size; some++) {
                boolean sameSize = Integer.bitCount(some) == Integer.bitCount(waited);
                if (sameSize && (!asManyHands || together(some) >= seen)) {
                    deals++;
                }
            }
            return deals;
        }
    }
}
