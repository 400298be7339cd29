/** QUESTIONS, THE SEED, daring that grows and falls: promises 18 to 22, boundary case by boundary case. */
public final class LessonsBoundsTest {
    private static final int UNKNOWN = -1, OUTSIDE = -2, NONE = -9;
    private static final int FRONT = 0, QUICK = 1, LOT = 2, STICKS = 3, FEWEST = 4;
    private static final int CALLS = 512;
    private static final long TIMES = 6364136223846793005L, MORE = 1442695040888963407L;
    private static final Bounds bounds = new Bounds();

    private static void due(String call, long got, long want) {
        bounds.due(call, got, want);
    }

    public static void main(String[] args) {
        raisedAndSilentRefuse();
        raisedAtItsEnds();
        silentAtItsEnds();
        seedAtItsEnds();
        seedWraps();
        drawnOfTheUpperBits();
        drawnAmongOneToTwelve();
        nothingIsDrawnOfNone();
        askRefuses();
        askInOrder();
        askTakesNone();
        askOfLikeOnes();
        lotLeavesOutWhoIsNotUp();
        daringAtItsEnds();
        rightAndUp();
        lessonRefuses();
        lessonAtItsEnds();
        lessonOfAllCalls();
        fewestOfAllCalls();
        bounds.end();
    }

    // ---- 18 and 19: raised, silent

    private static void raisedAndSilentRefuse() {
        Bounds.Made[] scenes = {AHandGoesUp::new, Bounds::lived, Bounds::full};
        int[] most = {0, 7, 4095};
        for (int i = 0; i < 3; i++) {
            bounds.takes("18 knows", 0, most[i], OUTSIDE, scenes[i], (x, knows) -> x.raised(knows, 9));
            bounds.takes("19 knows", 0, most[i], OUTSIDE, scenes[i], (x, knows) -> x.silent(knows, 0));
            bounds.takes("18 w", 0, 9, OUTSIDE, scenes[i], (x, w) -> x.raised(0, w));
            bounds.takes("19 w", 0, 9, OUTSIDE, scenes[i], (x, w) -> x.silent(0, w));
            bounds.refuses("18 both", OUTSIDE, scenes[i], x -> x.raised(4096, 10));
            bounds.refuses("19 both", OUTSIDE, scenes[i], x -> x.silent(-1, -1));
        }
        for (int pupils = 1; pupils <= 12; pupils++) {
            int all = (1 << pupils) - 1;
            Bounds.Made some = () -> Bounds.alike(Integer.bitCount(all), 'F', "909");
            bounds.takes("18 knows of " + pupils, 0, all, OUTSIDE, some, (x, knows) -> x.raised(knows, 0));
            due("18 all of " + pupils, some.make().raised(0, 0), all);
        }
    }

    private static void raisedAtItsEnds() {
        AHandGoesUp x = Bounds.classOf(Bounds.TWELVE);
        due("18 nobody knows", x.raised(0, 9), 0);
        due("18 all know", x.raised(4095, 9), 4095);
        due("18 all, just in time", x.raised(4095, 3), 4095);
        due("18 all, just not", x.raised(4095, 2), 0);
        due("18 the last", x.raised(2048, 9), 2048);
        due("18 the first", x.raised(1, 9), 1);
        x.mood(6);
        due("18 none dares", x.raised(4095, 9), 0);
        AHandGoesUp y = Bounds.classOf("P00590F01590P02500");
        y.mood(0);
        due("18 at 0", y.raised(7, 0), 6);
        due("18 at 8", y.raised(7, 8), 6);
        due("18 at 9 in mood 0", y.raised(7, 9), 7);
        y.wipe();
        Check.tell(y, "P00595P01500");
        y.room();
        due("18 at 9", y.raised(3, 9), 3);
        due("18 needs 0", y.raised(3, 0), 2);
        // it knows by no tenth, but is told to know
        AHandGoesUp z = Bounds.classOf("P00005");
        due("18 told to know", z.raised(1, 0), 1);
    }

    private static void silentAtItsEnds() {
        AHandGoesUp x = Bounds.classOf(Bounds.TWELVE);
        due("19 nobody knows", x.silent(0, 9), 0);
        due("19 all are UP", x.silent(4095, 3), 0);
        due("19 all think", x.silent(4095, 2), 4095);
        due("19 the last thinks", x.silent(2048, 2), 2048);
        x.mood(6);
        due("19 none dares", x.silent(4095, 9), 4095);
        due("19 none of those that don't know", x.silent(0, 0), 0);
        AHandGoesUp y = Bounds.classOf("F00595F01594");
        due("19 an F that needs more is UP", y.silent(3, 0), 2);
        y.mood(4);
        due("19 now both", y.silent(3, 0), 0);
    }

    // ---- 20: seed

    private static void seedAtItsEnds() {
        long[] seeds = {0, -1, 1, Long.MIN_VALUE, Long.MAX_VALUE, -2, -3, -4, -9, 4294967296L, 2147483648L};
        for (Bounds.Made scene : new Bounds.Made[] {AHandGoesUp::new, Bounds::full}) {
            AHandGoesUp x = scene.make();
            x.seed(0);
            long was = 0;
            for (long seed : seeds) {
                due("20 before " + seed, x.seed(seed), was);
                was = seed;
            }
            due("20 the last", x.seed(0), was);
        }
    }

    private static void seedWraps() {
        long[] seeds = {0, 1, -1, 2, Long.MIN_VALUE, Long.MAX_VALUE, 1L << 32, 0x123456789ABCDEFL};
        AHandGoesUp x = Bounds.classOf("P00535");
        for (long seed : seeds) {
            x.seed(seed);
            due("20 one alone is drawn", x.ask(0, 0, STICKS, false), 0);
            due("20 after " + seed, x.seed(0), seed * TIMES + MORE);
        }
        x.seed(0);
        long want = 0;
        for (int draw = 0; draw < 100; draw++) {
            x.ask(0, 0, STICKS, false);
            want = want * TIMES + MORE;
        }
        due("20 after a hundred", x.seed(0), want);
    }

    /** THE SEED of which this one comes by a draw. */
    private static long before(long next) {
        long inverse = 1;
        for (int i = 0; i < 6; i++) {
            inverse *= 2 - TIMES * inverse;
        }
        return (next - MORE) * inverse;
    }

    private static void drawnOfTheUpperBits() {
        AHandGoesUp x = Bounds.alike(12, 'P', "505");
        long unit = 1L << 33;
        long[] next = {0, unit - 1, unit, 2 * unit - 1, 11 * unit, 12 * unit - 1, 12 * unit, 13 * unit + 5,
            Long.MAX_VALUE, Long.MIN_VALUE, Long.MIN_VALUE + unit, -1, -unit, -unit - 1};
        // of the greatest 31 bits, 2147483647, 7 is left by 12; of 1073741824 4, of 1073741823 3
        int[] want = {0, 0, 1, 1, 11, 11, 0, 1, 3, 4, 5, 7, 7, 6};
        for (int i = 0; i < next.length; i++) {
            x.seed(before(next[i]));
            due("21 drawn of " + next[i], x.ask(0, 9, STICKS, false), want[i]);
            due("21 the seed is " + next[i], x.seed(0), next[i]);
        }
        AHandGoesUp y = Bounds.alike(12, 'F', "509");
        y.mood(0);
        for (int i = 0; i < next.length; i++) {
            y.seed(before(next[i]));
            due("21 by lot of " + next[i], y.ask(0, 0, LOT, false), want[i]);
            due("21 by lot the seed is " + next[i], y.seed(0), next[i]);
        }
    }

    private static void drawnAmongOneToTwelve() {
        for (int among = 1; among <= 12; among++) {
            for (int number = 0; number < 2 * among; number++) {
                AHandGoesUp x = Bounds.alike(among, 'F', "505");
                x.seed(before((long) number << 33));
                due("21 stick " + number + " of " + among, x.ask(0, 0, STICKS, false), number % among);
                AHandGoesUp y = Bounds.alike(among, 'F', "505");
                y.seed(before((long) number << 33));
                due("21 lot " + number + " of " + among, y.ask(0, 0, LOT, false), number % among);
            }
        }
    }

    private static void nothingIsDrawnOfNone() {
        AHandGoesUp x = Bounds.classOf("P00535F01534");
        x.seed(5);
        due("21 lot of none", x.ask(0, 9, LOT, false), NONE);
        due("21 lot too soon", x.ask(3, 2, LOT, true), NONE);
        due("21 nothing is drawn", x.seed(5), 5);
        for (int rule : new int[] {FRONT, QUICK, FEWEST}) {
            due("21 taken by " + rule, x.ask(1, 9, rule, false), 0);
            due("21 no draw by " + rule, x.seed(5), 5);
        }
        due("21 lot of one", x.ask(1, 9, LOT, false), 0);
        due("21 is a draw", x.seed(5), 5 * TIMES + MORE);
        x.mood(9);
        x.ask(0, 0, STICKS, true);
        due("21 sticks draw though none is UP", x.seed(0), 5 * TIMES + MORE);
        AHandGoesUp y = new AHandGoesUp();
        y.seed(-7);
        due("21 sticks of nobody", y.ask(0, 0, STICKS, true), NONE);
        due("21 lot of nobody", y.ask(0, 0, LOT, true), NONE);
        due("21 no draw of nobody", y.seed(0), -7);
        due("21 two questions all the same", y.lesson(3), 2);
    }

    // ---- 21: ask

    private static void askRefuses() {
        Bounds.Made[] scenes = {AHandGoesUp::new, Bounds::lived, Bounds::full};
        int[] most = {0, 7, 4095};
        for (int i = 0; i < 3; i++) {
            int all = most[i];
            bounds.takes("21 rule", 0, 4, UNKNOWN, scenes[i], (x, rule) -> x.ask(all, 9, rule, false));
            for (int rule = 0; rule < 5; rule++) {
                int by = rule;
                bounds.takes("21 knows by " + rule, 0, all, OUTSIDE, scenes[i], (x, knows) -> x.ask(knows, 9, by, true));
                bounds.takes("21 w by " + rule, 0, 9, OUTSIDE, scenes[i], (x, w) -> x.ask(all, w, by, false));
            }
        }
    }

    private static void askInOrder() {
        for (int rule : Bounds.beyond(0, 4)) {
            bounds.refuses("21 UNKNOWN before knows", UNKNOWN, Bounds::lived, x -> x.ask(8, 9, rule, false));
            bounds.refuses("21 UNKNOWN before w", UNKNOWN, Bounds::lived, x -> x.ask(7, 10, rule, true));
            bounds.refuses("21 UNKNOWN before both", UNKNOWN, Bounds::full, x -> x.ask(-1, -1, rule, true));
            bounds.refuses("21 UNKNOWN before all of nobody", UNKNOWN, AHandGoesUp::new, x -> x.ask(1, 10, rule, true));
        }
    }

    private static void askTakesNone() {
        AHandGoesUp x = Bounds.classOf("P00535F01534");
        int[] rules = {FRONT, QUICK, LOT, FEWEST};
        for (int i = 0; i < rules.length; i++) {
            due("21 none knows, by " + rules[i], x.ask(0, 9, rules[i], true), NONE);
            due("21 too soon, by " + rules[i], x.ask(1, 2, rules[i], true), NONE);
            due("21 F dares not, by " + rules[i], x.ask(2, 9, rules[i], true), NONE);
            due("21 questions", x.lesson(0), 3 * i + 3);
            due("21 at which none was taken", x.lesson(3), 3 * i + 3);
        }
        due("21 dares as before", x.about(0, 6), 5);
        due("21 F dares as before", x.about(1, 6), 4);
        due("21 never taken", x.lesson(4), 2);
        due("21 none right", x.lesson(1), 0);
        due("21 none wrong", x.lesson(2), 0);
    }

    private static void askOfLikeOnes() {
        AHandGoesUp x = Bounds.alike(12, 'F', "599");
        due("21 quick, of like ones", x.ask(0, 0, QUICK, false), 0);
        due("21 quick, of like ones again", x.ask(0, 0, QUICK, false), 0);
        // 0 was TAKEN twice: eleven others never, then once
        for (int one = 1; one < 12; one++) {
            due("21 fewest " + one, x.ask(0, 0, FEWEST, false), one);
        }
        x.mood(0);
        for (int one = 1; one < 12; one++) {
            due("21 fewest again " + one, x.ask(0, 0, FEWEST, false), one);
        }
        due("21 fewest of twice", x.ask(0, 0, FEWEST, false), 0);
        due("21 most times", x.lesson(5), 3);
        // the middle of a row: 2 and 3 are as near, 2 is the least
        AHandGoesUp y = Bounds.classOf("F03599F02599");
        due("21 front, the least column", y.ask(0, 0, FRONT, false), 1);
    }

    private static void lotLeavesOutWhoIsNotUp() {
        AHandGoesUp x = Bounds.classOf("P00505P01505P02505P03505P04505P05505P10505P11505P12505P13505P14505P15505");
        // 1, 4, 7 and 11 know: by lot they are counted from 0 on
        int knows = 1 << 1 | 1 << 4 | 1 << 7 | 1 << 11;
        int[] among = {1, 4, 7, 11, 1};
        for (int number = 0; number < 5; number++) {
            x.seed(before((long) number << 33));
            due("21 lot number " + number, x.ask(knows, 0, LOT, false), among[number]);
        }
        x.seed(before(5L << 33));
        due("21 sticks count all", x.ask(knows, 0, STICKS, false), 5);
    }

    private static int daresAfter(int dares, boolean right, boolean laugh) {
        AHandGoesUp x = Bounds.classOf("F0090" + dares);
        x.mood(0);
        x.ask(right ? 1 : 0, 9, FRONT, laugh);
        due("21 as told", x.about(0, 4), dares);
        return x.about(0, 6);
    }

    private static void daringAtItsEnds() {
        int[] more = {1, 2, 3, 4, 5, 6, 7, 8, 9, 9};
        int[] twoLess = {0, 0, 0, 1, 2, 3, 4, 5, 6, 7};
        int[] fourLess = {0, 0, 0, 0, 0, 1, 2, 3, 4, 5};
        for (int dares = 0; dares < 10; dares++) {
            due("21 right from " + dares, daresAfter(dares, true, false), more[dares]);
            due("21 right, they laugh at " + dares, daresAfter(dares, true, true), more[dares]);
            due("21 not right from " + dares, daresAfter(dares, false, false), twoLess[dares]);
            due("21 they laugh at " + dares, daresAfter(dares, false, true), fourLess[dares]);
        }
        AHandGoesUp x = Bounds.classOf("P00908");
        for (int i = 0; i < 3; i++) {
            x.ask(1, 9, STICKS, true);
        }
        due("21 not above 9", x.about(0, 6), 9);
        for (int i = 0; i < 3; i++) {
            x.ask(0, 9, STICKS, true);
        }
        due("21 not below 0", x.about(0, 6), 0);
        x.ask(1, 9, STICKS, true);
        due("21 from 0 on", x.about(0, 6), 1);
        due("21 times", x.about(0, 7), 7);
    }

    /** RIGHT is who knows and needs no more than w: F or P, UP or not. */
    private static void rightAndUp() {
        for (char letter : new char[] {'P', 'F'}) {
            for (int needs = 0; needs < 10; needs++) {
                for (int w = 0; w < 10; w++) {
                    AHandGoesUp x = Bounds.classOf(letter + "009" + needs + "4");
                    due("21 sticks", x.ask(1, w, STICKS, false), 0);
                    due("21 needs " + needs + " has " + w, x.lesson(1), needs <= w ? 1 : 0);
                    due("21 not right", x.lesson(2), needs <= w ? 0 : 1);
                    due("21 dares then", x.about(0, 6), needs <= w ? 5 : 2);
                    x.seed(0);
                    x.ask(0, w, STICKS, false);
                    due("21 knows not", x.lesson(2), needs <= w ? 1 : 2);
                }
            }
        }
        // MOOD just as much as it dares, and one more
        AHandGoesUp y = Bounds.classOf("F00909");
        y.mood(9);
        due("21 dares 9 in mood 9", y.ask(0, 0, QUICK, false), 0);
        y.mood(7);
        due("21 dares 7 in mood 7", y.ask(1, 0, QUICK, false), 0);
        y.mood(9);
        due("21 dares 8 in mood 9", y.ask(1, 9, QUICK, false), NONE);
    }

    // ---- 22: lesson

    private static void lessonRefuses() {
        for (Bounds.Made scene : new Bounds.Made[] {AHandGoesUp::new, Bounds::lived, Bounds::full}) {
            bounds.takes("22 what", 0, 5, OUTSIDE, scene, AHandGoesUp::lesson);
        }
    }

    private static void lessonAtItsEnds() {
        AHandGoesUp x = Bounds.alike(12, 'P', "505");
        due("22 all never taken", x.lesson(4), 12);
        due("22 most times of none", x.lesson(5), 0);
        for (int one = 0; one < 12; one++) {
            due("22 quick", x.ask(1 << one, 0, QUICK, false), one);
            due("22 never taken", x.lesson(4), 11 - one);
            due("22 most times", x.lesson(5), 1);
            due("22 right", x.lesson(1), one + 1);
        }
        x.ask(2048, 0, QUICK, false);
        due("22 the last one twice", x.lesson(5), 2);
        due("22 asked", x.lesson(0), 13);
        due("22 not right", x.lesson(2), 0);
        due("22 none taken", x.lesson(3), 0);
        x.ask(0, 9, STICKS, false);
        due("22 one not right", x.lesson(2), 1);
        x.ask(0, 9, LOT, false);
        due("22 one at which none was taken", x.lesson(3), 1);
        due("22 asked in all", x.lesson(0), 15);
    }

    /** All calls but the last few are QUESTIONS. */
    private static void lessonOfAllCalls() {
        AHandGoesUp x = new AHandGoesUp();
        x.write(6, 0x463030393030L);
        x.mood(0);
        x.room();
        int asked = 0;
        for (int call = 4; call <= CALLS - 6; call++) {
            x.ask(asked % 2, 9, asked % 3, true);
            asked++;
        }
        due("22 asked", x.lesson(0), asked);
        due("22 right", x.lesson(1), asked / 2);
        due("22 not right", x.lesson(2), asked - asked / 2);
        due("22 none taken", x.lesson(3), 0);
        due("22 most times", x.lesson(5), asked);
        due("22 times", x.about(0, 7), asked);
        AHandGoesUp nobody = new AHandGoesUp();
        for (int call = 1; call < CALLS; call++) {
            nobody.ask(0, 0, STICKS, false);
        }
        due("22 none taken of nobody", nobody.lesson(3), CALLS - 1);
    }

    /** However often others were TAKEN, one that was TAKEN less often comes first, in the front or not. */
    private static void fewestOfAllCalls() {
        AHandGoesUp x = Bounds.classOf("F00999F35009");
        x.mood(0);
        for (int i = 0; i < 240; i++) {
            due("21 fewest, the first", x.ask(1, 9, FEWEST, false), 0);
            due("21 fewest, the second", x.ask(2, 9, FEWEST, false), 1);
        }
        due("21 quick", x.ask(3, 9, QUICK, false), 1);
        due("21 fewest then", x.ask(3, 9, FEWEST, false), 0);
        due("21 of like ones the least", x.ask(3, 9, FEWEST, false), 0);
        due("22 most times", x.lesson(5), 242);
        due("14 fewest", x.taken(1, 0, FEWEST, true), 1);
        due("16 fewest", x.mostly(0, FEWEST), 1);
    }
}
