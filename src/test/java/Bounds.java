import java.util.ArrayList;
import java.util.Arrays;
import java.util.List;

/**
 * What the tests of boundary cases share: objects that have lived through something, numbers just beyond a bound and
 * far from it, and calls that are refused, with a look at what they may not have changed.
 */
final class Bounds {
    static final int UNKNOWN = -1, OUTSIDE = -2, STATE = -3, FULL = -4, NONE = -9;
    static final int FRONT = 0, QUICK = 1, LOT = 2, STICKS = 3, FEWEST = 4;
    static final int LEAST = Integer.MIN_VALUE, MOST = Integer.MAX_VALUE;

    /** What of 0 comes by one draw. */
    static final long FIRST_DRAW = 1442695040888963407L;

    /** Twelve by halves that need 3 seconds and dare 5: the front row, then the second. */
    static final String TWELVE = "P00535P01535P02535P03535P04535P05535P10535P11535P12535P13535P14535P15535";

    interface Made {
        AHandGoesUp make();
    }

    interface Call {
        long on(AHandGoesUp x);
    }

    interface Of {
        long on(AHandGoesUp x, int number);
    }

    interface Fraction {
        long on(AHandGoesUp x, boolean upper);
    }

    interface FractionOf {
        long on(AHandGoesUp x, int number, boolean upper);
    }

    private final Check check = new Check();

    void due(String call, long got, long want) {
        check.due(call, got, want);
    }

    void due(String call, AHandGoesUp x, Fraction part, long above, long below) {
        check.due(call, part.on(x, true), part.on(x, false), above, below);
    }

    void end() {
        check.end();
    }

    // ---- objects

    static AHandGoesUp classOf(String signs) {
        return Check.classOf(signs);
    }

    /** One letter and figure set for all: so many PUPILS of it, told from the front row on. */
    static AHandGoesUp alike(int pupils, char letter, String figures) {
        StringBuilder signs = new StringBuilder();
        for (int pupil = 0; pupil < pupils; pupil++) {
            signs.append(letter).append(pupil / 6).append(pupil % 6).append(figures);
        }
        return classOf(signs.toString());
    }

    /** Three PUPILS, lessons, one slot of two kept, TAPES, TRIALS; THE TEXT tells another CLASS, of two. */
    static AHandGoesUp lived() {
        AHandGoesUp x = classOf("P00535F12727P35362");
        x.mood(4);
        x.seed(77);
        x.ask(7, 9, LOT, false);
        x.ask(4, 9, STICKS, true);
        x.keep(0);
        x.ask(1, 9, FRONT, false);
        x.ask(0, 9, QUICK, true);
        x.mood(6);
        x.ask(0, 9, LOT, false);
        x.mood(4);
        x.tape(7, 2);
        x.tape(2049, 11);
        x.trial(9, true);
        x.trial(0, false);
        x.trial(99, true);
        x.wipe();
        Check.tell(x, "F25909P30010");
        return x;
    }

    /** Nothing more comes: twelve PUPILS in 72 bytes, both slots kept, 12 TAPES, 10 TRIALS; and THE SEED is -1. */
    static AHandGoesUp full() {
        AHandGoesUp x = classOf(TWELVE);
        x.keep(1);
        x.ask(4095, 9, FRONT, false);
        x.ask(0, 9, STICKS, true);
        x.keep(0);
        x.ask(4095, 9, FEWEST, true);
        for (int one = 0; one < 12; one++) {
            x.tape(4095 >> one, 0);
        }
        for (int hands = 0; hands < 10; hands++) {
            x.trial(11 * hands, hands % 3 == 0);
        }
        x.seed(-1);
        return x;
    }

    /** As lived(), but THE TEXT has a FAULT. */
    static AHandGoesUp faulty() {
        AHandGoesUp x = lived();
        x.write(1, 'X');
        return x;
    }

    /**
     * All that can be told of an object in some 380 calls or fewer. It is used up by that: in the end it is as in its
     * slots, and then as THE TEXT tells.
     */
    static List<Long> all(AHandGoesUp x) {
        List<Long> seen = new ArrayList<>();
        for (int what = 0; what < 5; what++) {
            seen.add((long) x.count(what));
        }
        seen.add((long) x.fault());
        seen.add((long) x.mood(0));
        addClass(seen, x);
        for (int one = 0; one < 12; one++) {
            seen.add((long) x.came(1 << one));
            seen.add(x.due(1 << one, true));
            seen.add(x.due(1 << one, false));
        }
        seen.add(x.chance(true));
        seen.add(x.chance(false));
        for (int slot = 0; slot < 2; slot++) {
            seen.add((long) x.again(slot));
            addLessons(seen, x);
        }
        seen.add((long) x.room());
        addClass(seen, x);
        return seen;
    }

    private static void addClass(List<Long> seen, AHandGoesUp x) {
        for (int pupil = 0; pupil < x.count(1); pupil++) {
            for (int what = 0; what < 6; what++) {
                seen.add((long) x.about(pupil, what));
            }
        }
        addLessons(seen, x);
    }

    private static void addLessons(List<Long> seen, AHandGoesUp x) {
        int pupils = x.count(1);
        for (int pupil = 0; pupil < pupils; pupil++) {
            seen.add((long) x.about(pupil, 6));
            seen.add((long) x.about(pupil, 7));
        }
        for (int what = 0; what < 6; what++) {
            seen.add((long) x.lesson(what));
        }
        seen.add(x.seed(0));
    }

    // ---- refusals

    /** The call is refused, and all is as if it had not been. */
    void refuses(String call, long refusal, Made scene, Call refused) {
        AHandGoesUp x = scene.make();
        due(call, refused.on(x), refusal);
        due(call + " once more", refused.on(x), refusal);
        List<Long> seen = all(x);
        List<Long> want = all(scene.make());
        if (!seen.equals(want)) {
            due(call + " has changed " + want + " to " + seen, 1, 0);
        }
    }

    /** Above and below are refused likewise. */
    void refusesFraction(String call, long refusal, Made scene, Fraction refused) {
        refuses(call + " above", refusal, scene, x -> refused.on(x, true));
        refuses(call + " below", refusal, scene, x -> refused.on(x, false));
    }

    /** Numbers from least to most are taken, those beyond are refused. */
    void takes(String call, int least, int most, long refusal, Made scene, Of asked) {
        for (int number : new int[] {least, most}) {
            isTaken(call + " of " + number, asked.on(scene.make(), number));
        }
        for (int number : beyond(least, most)) {
            refuses(call + " of " + number, refusal, scene, x -> asked.on(x, number));
        }
    }

    void takesFraction(String call, int least, int most, long refusal, Made scene, FractionOf asked) {
        takes(call + " above", least, most, refusal, scene, (x, number) -> asked.on(x, number, true));
        takes(call + " below", least, most, refusal, scene, (x, number) -> asked.on(x, number, false));
    }

    private void isTaken(String call, long got) {
        boolean refused = got == UNKNOWN || got == OUTSIDE || got == STATE || got == FULL;
        due(call + " answered " + got + ": is it refused", refused ? 1 : 0, 0);
    }

    /** Just outside, the ends of int, and numbers of which the lowest bits alone would be inside. */
    static int[] beyond(int least, int most) {
        int[] far = {least - 1, most + 1, LEAST, LEAST + 1, LEAST + least, MOST, MOST - 1, -least - 1, -most, -most - 1,
            least + 32, most + 32, least + 64, least + 256, most + 256, least + 65536, most + 65536, ~least, ~most};
        return Arrays.stream(far).filter(number -> number < least || number > most).distinct().toArray();
    }
}
