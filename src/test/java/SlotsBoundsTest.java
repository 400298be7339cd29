import java.util.ArrayList;
import java.util.List;

/** SLOTS and counts: promises 34 to 36, boundary case by boundary case; and FRACTIONS of all calls. */
public final class SlotsBoundsTest {
    private static final int UNKNOWN = -1, OUTSIDE = -2, STATE = -3, NONE = -9;
    private static final int FRONT = 0, LOT = 2, STICKS = 3;
    private static final Bounds bounds = new Bounds();

    private static void due(String call, long got, long want) {
        bounds.due(call, got, want);
    }

    private static void same(String call, List<Long> got, List<Long> want) {
        if (!got.equals(want)) {
            due(call + " " + got + ", not " + want, 1, 0);
        }
        due(call, 0, 0);
    }

    public static void main(String[] args) {
        constants();
        keepRefuses();
        keepAtItsEnds();
        keepChangesNothingElse();
        againRefuses();
        againIsAsKept();
        againLeavesTheRest();
        againOfBothSlots();
        againOfNobody();
        roomTakesWhatWasKept();
        countRefuses();
        countAtItsEnds();
        fractionsInLeastTerms();
        bounds.end();
    }

    private static void constants() {
        due("UNKNOWN", AHandGoesUp.UNKNOWN, UNKNOWN);
        due("OUTSIDE", AHandGoesUp.OUTSIDE, OUTSIDE);
        due("STATE", AHandGoesUp.STATE, STATE);
        due("FULL", AHandGoesUp.FULL, -4);
        due("NONE", AHandGoesUp.NONE, NONE);
    }

    // ---- 34: keep

    private static void keepRefuses() {
        for (Bounds.Made scene : new Bounds.Made[] {AHandGoesUp::new, Bounds::lived, Bounds::full}) {
            bounds.takes("34 slot", 0, 1, UNKNOWN, scene, AHandGoesUp::keep);
        }
    }

    private static void keepAtItsEnds() {
        for (int slot = 0; slot < 2; slot++) {
            AHandGoesUp x = new AHandGoesUp();
            due("34 nothing asked", x.keep(slot), 0);
            due("34 it is kept all the same", x.again(slot), 0);
            due("34 the other is not", x.again(1 - slot), STATE);
            x.ask(0, 0, FRONT, false);
            due("34 one asked", x.keep(slot), 1);
            due("34 kept over", x.again(slot), 1);
            due("34 once more", x.keep(slot), 1);
        }
    }

    private static void keepChangesNothingElse() {
        AHandGoesUp x = Bounds.full();
        AHandGoesUp y = Bounds.full();
        due("34 keep", x.keep(0), 3);
        due("34 keep in both", x.keep(1), 3);
        same("34 now", now(x), now(y));
        List<Long> want = now(y);
        x.again(0);
        same("34 in 0", now(x), want);
        x.again(1);
        same("34 in 1", now(x), want);
    }

    /** What a slot keeps: daring, times, what came of QUESTIONS, THE SEED. */
    private static List<Long> now(AHandGoesUp x) {
        List<Long> seen = new ArrayList<>();
        int pupils = x.count(1);
        for (int pupil = 0; pupil < pupils; pupil++) {
            seen.add((long) x.about(pupil, 6));
            seen.add((long) x.about(pupil, 7));
        }
        for (int what = 0; what < 6; what++) {
            seen.add((long) x.lesson(what));
        }
        long seed = x.seed(0);
        x.seed(seed);
        seen.add(seed);
        return seen;
    }

    // ---- 35: again

    private static void againRefuses() {
        bounds.takes("35 slot", 0, 1, UNKNOWN, Bounds::full, AHandGoesUp::again);
        for (int slot : Bounds.beyond(0, 1)) {
            bounds.refuses("35 UNKNOWN before STATE", UNKNOWN, AHandGoesUp::new, x -> x.again(slot));
            bounds.refuses("35 UNKNOWN, one kept", UNKNOWN, Bounds::lived, x -> x.again(slot));
        }
        bounds.refuses("35 nothing in 0", STATE, AHandGoesUp::new, x -> x.again(0));
        bounds.refuses("35 nothing in 1", STATE, AHandGoesUp::new, x -> x.again(1));
        bounds.refuses("35 only in 0", STATE, Bounds::lived, x -> x.again(1));
        Bounds.Made onlyInOne = () -> {
            AHandGoesUp x = Bounds.classOf(Bounds.TWELVE);
            x.ask(4095, 9, LOT, false);
            x.keep(1);
            x.ask(4095, 9, STICKS, false);
            return x;
        };
        bounds.refuses("35 only in 1", STATE, onlyInOne, x -> x.again(0));
    }

    private static void againIsAsKept() {
        for (int slot = 0; slot < 2; slot++) {
            AHandGoesUp x = Bounds.classOf("P00905F01905P02900");
            x.seed(Long.MIN_VALUE);
            x.ask(7, 9, LOT, false);
            x.ask(0, 9, STICKS, true);
            x.ask(0, 0, FRONT, false);
            x.seed(Long.MAX_VALUE);
            due("35 keep", x.keep(slot), 3);
            List<Long> want = now(x);
            for (int more = 0; more < 4; more++) {
                for (int i = 0; i <= more; i++) {
                    x.ask(7 * (i % 2), 9 * (more % 2), STICKS, i > 1);
                    x.ask(7, 9, LOT, true);
                }
                due("35 again after " + more, x.again(slot), 3);
                same("35 as kept", now(x), want);
            }
            // it goes on from there as it would have gone on
            int first = x.ask(7, 9, STICKS, false);
            x.again(slot);
            due("35 goes on likewise", x.ask(7, 9, STICKS, false), first);
            due("35 so many then", x.lesson(0), 4);
        }
    }

    private static void againLeavesTheRest() {
        AHandGoesUp x = Bounds.lived();
        x.mood(9);
        x.tape(8, 3);
        x.untrial();
        x.trial(1, true);
        x.write(1, 'P');
        due("35 again", x.again(0), 2);
        due("35 mood is not kept", x.mood(9), 9);
        due("35 bytes", x.count(0), 13);
        due("35 pupils", x.count(1), 3);
        due("35 tapes", x.count(2), 3);
        due("35 trials", x.count(3), 1);
        due("35 waited", x.count(4), 1);
        due("35 came", x.came(8), 1);
        due("35 dares as told", x.about(0, 4), 5);
        due("35 the other slot is still empty", x.again(1), STATE);
        due("35 this one is still kept", x.again(0), 2);
    }

    private static void againOfBothSlots() {
        AHandGoesUp x = Bounds.classOf("F00909F01909");
        x.keep(0);
        List<Long> first = now(x);
        x.ask(0, 9, STICKS, true);
        x.keep(1);
        List<Long> second = now(x);
        x.ask(0, 9, STICKS, true);
        for (int i = 0; i < 3; i++) {
            due("35 slot 0", x.again(0), 0);
            same("35 of 0", now(x), first);
            due("35 slot 1", x.again(1), 1);
            same("35 of 1", now(x), second);
        }
        // from one slot into the other
        x.again(0);
        due("35 keep it in 1", x.keep(1), 0);
        x.ask(0, 9, STICKS, false);
        x.again(1);
        same("35 both are the first", now(x), first);
    }

    private static void againOfNobody() {
        AHandGoesUp x = new AHandGoesUp();
        x.ask(0, 0, STICKS, false);
        x.seed(44);
        due("35 keep of nobody", x.keep(0), 1);
        x.ask(0, 0, LOT, false);
        x.seed(45);
        due("35 again of nobody", x.again(0), 1);
        due("35 seed of nobody", x.seed(0), 44);
        due("35 none taken", x.lesson(3), 1);
    }

    private static void roomTakesWhatWasKept() {
        AHandGoesUp x = Bounds.full();
        x.wipe();
        due("35 both are kept", x.again(1), 0);
        x.write(1, 'Q');
        due("35 no room", x.room(), STATE);
        due("35 still kept", x.again(0), 2);
        x.wipe();
        x.room();
        due("35 gone 0", x.again(0), STATE);
        due("35 gone 1", x.again(1), STATE);
    }

    // ---- 36: count

    private static void countRefuses() {
        for (Bounds.Made scene : new Bounds.Made[] {AHandGoesUp::new, Bounds::lived, Bounds::full}) {
            bounds.takes("36 what", 0, 4, OUTSIDE, scene, AHandGoesUp::count);
        }
    }

    private static void countAtItsEnds() {
        int[] lived = {12, 3, 2, 3, 2};
        int[] full = {72, 12, 12, 10, 4};
        for (int what = 0; what < 5; what++) {
            due("36 new " + what, new AHandGoesUp().count(what), 0);
            due("36 lived " + what, Bounds.lived().count(what), lived[what]);
            due("36 full " + what, Bounds.full().count(what), full[what]);
        }
        AHandGoesUp x = new AHandGoesUp();
        x.write(8, 0);
        due("36 a text is no class yet", x.count(1), 0);
        due("36 its bytes", x.count(0), 8);
    }

    // ---- FRACTIONS

    /** Above is 0 or more, below is 1 or more, and no number but 1 divides both. */
    private static void leastTerms(String call, AHandGoesUp x, Bounds.Fraction part) {
        long above = part.on(x, true);
        long below = part.on(x, false);
        boolean refused = above < 0 && above == below;
        due(call + " " + above + " of " + below, refused || above >= 0 && below >= 1 && divisor(above, below) == 1 ? 1 : 0, 1);
    }

    private static long divisor(long a, long b) {
        return b == 0 ? a : divisor(b, a % b);
    }

    private static void fractionsInLeastTerms() {
        for (Bounds.Made scene : new Bounds.Made[] {AHandGoesUp::new, Bounds::lived, Bounds::full}) {
            for (int i = 0; i < 13; i++) {
                int n = i;
                for (int w = 0; w < 10; w++) {
                    int at = w;
                    AHandGoesUp x = scene.make();
                    leastTerms("hands", x, (y, upper) -> y.hands(at, n, upper));
                    for (int h = 0; h < 13; h++) {
                        int hands = h;
                        leastTerms("given", x, (y, upper) -> y.given(at, hands, n, upper));
                    }
                    for (int rule = 0; rule < 5; rule++) {
                        int by = rule;
                        leastTerms("taken", x, (y, upper) -> y.taken(n, at, by, upper));
                        leastTerms("right", x, (y, upper) -> y.right(at, by, upper));
                    }
                    leastTerms("due", x, (y, upper) -> y.due(315 * n, upper));
                    leastTerms("luck", x, (y, upper) -> y.luck(315 * n, upper));
                    leastTerms("until", x, (y, upper) -> y.until(n, upper));
                    leastTerms("chance", x, AHandGoesUp::chance);
                }
            }
        }
    }
}
