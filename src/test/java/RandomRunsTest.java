import java.util.Random;

/** Runs of random calls, the same each time: AHandGoesUp must answer as Naive does. */
public final class RandomRunsTest {
    private static final int RUNS = 600, CALLS = 512, MOST_OF_ONE = 60, NUMBERS_AWRY_OF = 24, LOT = 2;

    private final Check check;
    private final int run;
    private final Random random;
    private final int mostPupils;
    private final AHandGoesUp x = new AHandGoesUp();
    private final Naive naive = new Naive();
    private int calls;

    private RandomRunsTest(Check check, int run) {
        this.check = check;
        this.run = run;
        random = new Random(run);
        // what twelve may know is gone through slowly: few runs have so many
        mostPupils = run % 40 == 0 ? 12 : 1 + run % 5;
    }

    public static void main(String[] args) {
        Check check = new Check();
        for (int run = 0; run < RUNS && !check.hasWrong(); run++) {
            RandomRunsTest test = new RandomRunsTest(check, run);
            test.go(run % 40 == 0 ? CALLS / 2 : CALLS);
        }
        check.end();
    }

    /** An object is used for so many calls at most: the last ones are single calls. */
    private void go(int most) {
        newClass();
        while (calls + MOST_OF_ONE < most) {
            one(random.nextInt(36));
        }
        while (calls < most) {
            int known = knows();
            due("ask", x.ask(known, 9, LOT, true), naive.ask(known, 9, LOT, true));
        }
    }

    /** Mostly least to most; now and then just beyond, or far. */
    private int number(int least, int most) {
        switch (random.nextInt(NUMBERS_AWRY_OF)) {
            case 0: return least - 1;
            case 1: return most + 1;
            case 2: return random.nextInt(4) == 0 ? random.nextInt() : least;
            case 3: return most;
            default: return least > most ? least : least + random.nextInt(most - least + 1);
        }
    }

    private int pupil() {
        return number(0, naive.count(1) - 1);
    }

    private int knows() {
        return number(0, (1 << naive.count(1)) - 1);
    }

    private int seconds() {
        return number(0, 9);
    }

    private int rule() {
        return number(0, 4);
    }

    private boolean flag() {
        return random.nextBoolean();
    }

    private void due(String call, long got, long want) {
        calls++;
        check.due("run " + run + ": " + call, got, want);
    }

    private void newClass() {
        due("wipe", x.wipe(), naive.wipe());
        String signs = signs();
        int from = 0;
        while (from < signs.length()) {
            int n = Math.min(2 + random.nextInt(7), signs.length() - from);
            long v = random.nextLong();
            for (int i = 0; i < n; i++) {
                v = v << 8 | signs.charAt(from + i);
            }
            due("write", x.write(n, v), naive.write(n, v));
            from += n;
        }
        due("fault of " + signs, x.fault(), naive.fault());
        due("room of " + signs, x.room(), naive.room());
    }

    private String signs() {
        StringBuilder signs = new StringBuilder();
        int pupils = random.nextInt(mostPupils + 1);
        int rows = 1 + random.nextInt(4);
        boolean mayCollide = random.nextInt(6) == 0;
        boolean[] seats = new boolean[24];
        for (int pupil = 0; pupil < pupils; pupil++) {
            int place = random.nextInt(6 * rows);
            if (seats[place] && !mayCollide) {
                continue;
            }
            seats[place] = true;
            signs.append(random.nextInt(3) == 0 ? 'F' : 'P').append(place / 6).append(place % 6);
            signs.append(random.nextInt(10)).append(random.nextInt(10)).append(2 + random.nextInt(8));
        }
        if (signs.length() > 0 && random.nextInt(8) == 0) {
            signs.setCharAt(random.nextInt(signs.length()), (char) random.nextInt(256));
        }
        if (random.nextInt(10) == 0) {
            signs.setLength(random.nextInt(signs.length() + 1));
        }
        return signs.toString();
    }

    private void one(int call) {
        int pupil = pupil();
        int known = knows();
        int w = seconds();
        int rule = rule();
        int n = number(0, 12);
        int h = number(0, Math.min(12, naive.count(1)));
        boolean flag = flag();
        switch (call) {
            case 0: some(random.nextInt(6)); break;
            case 1: due("fault", x.fault(), naive.fault()); break;
            case 2: about(pupil); break;
            case 3: due("mood", x.mood(n), naive.mood(n)); break;
            case 4: due("up", x.up(pupil, w), naive.up(pupil, w)); break;
            case 5: due("mean", x.mean(w), naive.mean(w)); break;
            case 6: due("quiet", x.quiet(w), naive.quiet(w)); break;
            case 7: due("hands", x.hands(w, n, flag), naive.hands(w, n, flag)); break;
            case 8: due("given", x.given(w, h, n, flag), naive.given(w, h, n, flag)); break;
            case 9: due("likely", x.likely(w, h), naive.likely(w, h)); break;
            case 10: case 11:
                due("taken", x.taken(pupil, w, rule, flag), naive.taken(pupil, w, rule, flag)); break;
            case 12: case 13: due("right", x.right(w, rule, flag), naive.right(w, rule, flag)); break;
            case 14: due("mostly", x.mostly(w, rule), naive.mostly(w, rule)); break;
            case 15: await(); break;
            case 16: due("raised", x.raised(known, w), naive.raised(known, w)); break;
            case 17: due("silent", x.silent(known, w), naive.silent(known, w)); break;
            case 18: seed(); break;
            case 19: case 20: case 21: case 22: case 23: case 24:
                due("ask", x.ask(known, w, rule, flag), naive.ask(known, w, rule, flag)); break;
            case 25: lessons(); break;
            case 26: case 27: tapes(); break;
            case 28: group(); break;
            case 29: boards(); break;
            case 30: case 31: trials(); break;
            case 32: due("chance", x.chance(flag), naive.chance(flag)); break;
            case 33: due("until", x.until(n, flag), naive.until(n, flag)); break;
            case 34: slots(); break;
            default: n = number(0, 4);
                due("count", x.count(n), naive.count(n)); break;
        }
    }

    private void some(int what) {
        if (what < 3) {
            newClass();
            return;
        }
        int n = number(1, 8);
        long v = random.nextLong();
        due("write", x.write(n, v), naive.write(n, v));
        if (what == 5) {
            due("room", x.room(), naive.room());
        }
    }

    private void about(int pupil) {
        for (int what = -1; what <= 8; what++) {
            due("about", x.about(pupil, what), naive.about(pupil, what));
        }
    }

    private void await() {
        int v = number(0, 99);
        int c = random.nextInt(3) == 0 ? number(0, 99) : number(0, 9);
        due("await", x.await(v, c), naive.await(v, c));
    }

    private void seed() {
        long v = random.nextLong();
        due("seed", x.seed(v), naive.seed(v));
    }

    private void lessons() {
        for (int what = -1; what <= 6; what++) {
            due("lesson", x.lesson(what), naive.lesson(what));
        }
    }

    private void tapes() {
        if (random.nextInt(20) == 0) {
            due("untape", x.untape(), naive.untape());
            return;
        }
        int hands = random.nextInt(3) == 0 ? number(1, 4095) : number(1, 63);
        int taken = number(0, 11);
        int among = random.nextInt(4) == 0 ? hands : hands | 1 << (taken & 15);
        due("tape", x.tape(among, taken), naive.tape(among, taken));
    }

    private void group() {
        int group = number(0, 4095);
        due("came", x.came(group), naive.came(group));
        for (boolean upper : new boolean[] {true, false}) {
            due("due", x.due(group, upper), naive.due(group, upper));
            due("luck", x.luck(group, upper), naive.luck(group, upper));
        }
    }

    private void boards() {
        int n = number(1, 30);
        int m = number(0, n < 30 ? Math.max(n, 0) : 30);
        int s = number(1, n < 30 ? Math.max(n, 1) : 30);
        int r = number(0, s < 30 ? Math.max(s, 0) : 30);
        boolean flag = flag();
        due("boards", x.boards(n, m, s, r, flag), naive.boards(n, m, s, r, flag));
        due("span", x.span(n, s, r, flag), naive.span(n, s, r, flag));
    }

    private void trials() {
        if (random.nextInt(16) == 0) {
            due("untrial", x.untrial(), naive.untrial());
            return;
        }
        int hands = random.nextInt(3) == 0 ? number(0, 99) : number(0, 5);
        boolean flag = flag();
        due("trial", x.trial(hands, flag), naive.trial(hands, flag));
    }

    private void slots() {
        int slot = number(0, 1);
        if (random.nextInt(3) == 0) {
            due("keep", x.keep(slot), naive.keep(slot));
        } else {
            due("again", x.again(slot), naive.again(slot));
        }
    }
}
