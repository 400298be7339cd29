/** BOARDS, TRIALS, sticks: promises 28 to 33, boundary case by boundary case. */
public final class OddsBoundsTest {
    private static final int OUTSIDE = -2, FULL = -4, NONE = -9;
    private static final Bounds bounds = new Bounds();

    private static void due(String call, long got, long want) {
        bounds.due(call, got, want);
    }

    private static void due(String call, AHandGoesUp x, Bounds.Fraction part, long above, long below) {
        bounds.due(call, x, part, above, below);
    }

    public static void main(String[] args) {
        boardsRefuse();
        boardsAtTheirEnds();
        spanRefuses();
        spanOfJustATwentieth();
        spanAtItsEnds();
        allBoardsAndSpans();
        trialRefuses();
        trialsAreTen();
        untrialOfNoneAndOfAll();
        chanceAtItsEnds();
        chanceAsManyOrMore();
        untilRefuses();
        untilOfEach();
        bounds.end();
    }

    // ---- 28: boards

    private static void boardsRefuse() {
        for (Bounds.Made scene : new Bounds.Made[] {AHandGoesUp::new, Bounds::full}) {
            bounds.takesFraction("28 n", 1, 30, OUTSIDE, scene, (x, n, upper) -> x.boards(n, 0, 1, 0, upper));
            for (int n : new int[] {1, 2, 29, 30}) {
                bounds.takesFraction("28 m of " + n, 0, n, OUTSIDE, scene, (x, m, upper) -> x.boards(n, m, 1, 0, upper));
                bounds.takesFraction("28 s of " + n, 1, n, OUTSIDE, scene, (x, s, upper) -> x.boards(n, 0, s, 0, upper));
            }
            for (int s : new int[] {1, 2, 29, 30}) {
                bounds.takesFraction("28 r of " + s, 0, s, OUTSIDE, scene, (x, r, upper) -> x.boards(30, 15, s, r, upper));
            }
            bounds.refusesFraction("28 all", OUTSIDE, scene, (x, upper) -> x.boards(0, 1, 1, 2, upper));
            bounds.refusesFraction("28 r by m, not by s", OUTSIDE, scene, (x, upper) -> x.boards(30, 20, 10, 11, upper));
            bounds.refusesFraction("28 least", OUTSIDE, scene,
                    (x, upper) -> x.boards(Bounds.LEAST, Bounds.LEAST, Bounds.LEAST, Bounds.LEAST, upper));
            bounds.refusesFraction("28 most", OUTSIDE, scene,
                    (x, upper) -> x.boards(Bounds.MOST, Bounds.MOST, Bounds.MOST, Bounds.MOST, upper));
        }
    }

    private static void boardsAtTheirEnds() {
        AHandGoesUp x = new AHandGoesUp();
        due("28 one, right", x, (y, upper) -> y.boards(1, 1, 1, 1, upper), 1, 1);
        due("28 one, right, not seen so", x, (y, upper) -> y.boards(1, 1, 1, 0, upper), 0, 1);
        due("28 one, not right", x, (y, upper) -> y.boards(1, 0, 1, 0, upper), 1, 1);
        due("28 one, not right, seen so", x, (y, upper) -> y.boards(1, 0, 1, 1, upper), 0, 1);
        due("28 more seen right than are", x, (y, upper) -> y.boards(30, 14, 15, 15, upper), 0, 1);
        due("28 just as many", x, (y, upper) -> y.boards(30, 15, 15, 15, upper), 1, 155_117_520);
        due("28 more seen wrong than are", x, (y, upper) -> y.boards(30, 16, 15, 0, upper), 0, 1);
        due("28 just as many wrong", x, (y, upper) -> y.boards(30, 15, 15, 0, upper), 1, 155_117_520);
        due("28 all are seen", x, (y, upper) -> y.boards(30, 17, 30, 17, upper), 1, 1);
        due("28 all are seen, one less", x, (y, upper) -> y.boards(30, 17, 30, 16, upper), 0, 1);
        due("28 none is right", x, (y, upper) -> y.boards(30, 0, 29, 0, upper), 1, 1);
        due("28 all are right", x, (y, upper) -> y.boards(30, 30, 29, 29, upper), 1, 1);
        due("28 all but one", x, (y, upper) -> y.boards(30, 29, 29, 29, upper), 1, 30);
        due("28 all but one, one less", x, (y, upper) -> y.boards(30, 29, 29, 28, upper), 29, 30);
        // 6435 times 6435 of 155117520
        due("28 the middle", x, (y, upper) -> y.boards(30, 15, 15, 7, upper), 920_205, 3_447_056);
    }

    // ---- 29: span

    private static void spanRefuses() {
        for (Bounds.Made scene : new Bounds.Made[] {AHandGoesUp::new, Bounds::full}) {
            for (boolean most : new boolean[] {true, false}) {
                bounds.takes("29 n", 1, 30, OUTSIDE, scene, (x, n) -> x.span(n, 1, 0, most));
                for (int n : new int[] {1, 2, 29, 30}) {
                    bounds.takes("29 s of " + n, 1, n, OUTSIDE, scene, (x, s) -> x.span(n, s, 0, most));
                }
                for (int s : new int[] {1, 2, 29, 30}) {
                    bounds.takes("29 r of " + s, 0, s, OUTSIDE, scene, (x, r) -> x.span(30, s, r, most));
                }
                bounds.refuses("29 all", OUTSIDE, scene, x -> x.span(0, 1, 2, most));
                bounds.refuses("29 least", OUTSIDE, scene, x -> x.span(Bounds.LEAST, Bounds.LEAST, Bounds.LEAST, most));
                bounds.refuses("29 most", OUTSIDE, scene, x -> x.span(Bounds.MOST, Bounds.MOST, Bounds.MOST, most));
            }
        }
    }

    private static void spanOfJustATwentieth() {
        AHandGoesUp x = new AHandGoesUp();
        // 1 of 20, and 3 of 6 that are one of 20 ways: just a twentieth is enough
        due("29 1 of 20, from", x.span(20, 1, 1, false), 1);
        due("29 19 of 20, to", x.span(20, 1, 0, true), 19);
        due("29 3 of 6, from", x.span(6, 3, 3, false), 3);
        due("29 3 of 6, to", x.span(6, 3, 0, true), 3);
        due("29 1 of 21 is less", x.span(21, 1, 1, false), 2);
        due("29 20 of 21 leave less", x.span(21, 1, 0, true), 19);
        due("29 1 of 19 is more", x.span(19, 1, 1, false), 1);
        due("29 18 of 19 leave more", x.span(19, 1, 0, true), 18);
    }

    private static void spanAtItsEnds() {
        AHandGoesUp x = new AHandGoesUp();
        for (int n = 1; n <= 30; n++) {
            due("29 all right, to", x.span(n, n, n, true), n);
            due("29 all right, from", x.span(n, n, n, false), n);
            due("29 none right, from", x.span(n, n, 0, false), 0);
            due("29 none right, to", x.span(n, n, 0, true), 0);
            due("29 one seen right, to", x.span(n, 1, 1, true), n);
            due("29 one seen wrong, from", x.span(n, 1, 0, false), 0);
        }
    }

    /** All that may be asked, held against Naive: on a new object each time, for one has but 512 calls. */
    private static void allBoardsAndSpans() {
        Naive naive = new Naive();
        int nones = 0;
        for (int n = 1; n <= 30; n++) {
            for (int s = 1; s <= n; s++) {
                for (int r = 0; r <= s; r++) {
                    AHandGoesUp x = new AHandGoesUp();
                    int from = x.span(n, s, r, false);
                    due("29 from " + n + " " + s + " " + r, from, naive.span(n, s, r, false));
                    due("29 to " + n + " " + s + " " + r, x.span(n, s, r, true), naive.span(n, s, r, true));
                    nones += from == NONE ? 1 : 0;
                    for (int m = 0; m <= n; m++) {
                        String call = "28 boards " + n + " " + m + " " + s + " " + r;
                        due(call, x.boards(n, m, s, r, true), naive.boards(n, m, s, r, true));
                        due(call + " below", x.boards(n, m, s, r, false), naive.boards(n, m, s, r, false));
                    }
                }
            }
        }
        // NONE is told by the document, but of 30 boards and fewer some m is always likely enough
        due("29 so often NONE", nones, 0);
    }

    // ---- 30: trial

    private static void trialRefuses() {
        for (boolean waited : new boolean[] {true, false}) {
            bounds.takes("30 hands", 0, 99, OUTSIDE, AHandGoesUp::new, (x, hands) -> x.trial(hands, waited));
            bounds.takes("30 hands, lived", 0, 99, OUTSIDE, Bounds::lived, (x, hands) -> x.trial(hands, waited));
            for (int hands : Bounds.beyond(0, 99)) {
                bounds.refuses("30 OUTSIDE before FULL", OUTSIDE, Bounds::full, x -> x.trial(hands, waited));
            }
            for (int hands : new int[] {0, 1, 98, 99}) {
                bounds.refuses("30 FULL, " + hands, FULL, Bounds::full, x -> x.trial(hands, waited));
            }
        }
    }

    private static void trialsAreTen() {
        for (boolean waited : new boolean[] {true, false}) {
            AHandGoesUp x = new AHandGoesUp();
            for (int i = 1; i <= 10; i++) {
                due("30 trial " + i, x.trial(99, waited), i);
                due("30 so many", x.count(3), i);
                due("30 so many waited", x.count(4), waited ? i : 0);
            }
            due("30 an eleventh", x.trial(0, true), FULL);
            due("30 still ten", x.count(3), 10);
            due("30 waited still", x.count(4), waited ? 10 : 0);
        }
    }

    // ---- 31: untrial

    private static void untrialOfNoneAndOfAll() {
        AHandGoesUp x = new AHandGoesUp();
        for (int trials : new int[] {0, 1, 10, 9}) {
            for (int i = 0; i < trials; i++) {
                x.trial(99 - i, i % 2 == 0);
            }
            due("31 untrial " + trials, x.untrial(), trials);
            due("31 none left", x.count(3), 0);
            due("31 none waited", x.count(4), 0);
            due("31 chance of none", x, AHandGoesUp::chance, 1, 1);
            due("31 once more", x.untrial(), 0);
        }
        AHandGoesUp full = Bounds.full();
        due("31 full", full.untrial(), 10);
        due("31 tapes stay", full.count(2), 12);
        for (int i = 1; i <= 10; i++) {
            due("31 room for ten", full.trial(i, false), i);
        }
        due("31 none of these waited", full.count(4), 0);
        due("31 and no more", full.trial(0, false), FULL);
    }

    // ---- 32: chance

    private static AHandGoesUp trials(int many, int waited, int handsOfThese, int handsOfOthers) {
        AHandGoesUp x = new AHandGoesUp();
        for (int i = 0; i < many; i++) {
            x.trial(i < waited ? handsOfThese : handsOfOthers, i < waited);
        }
        return x;
    }

    private static void chanceAtItsEnds() {
        due("32 no trials", new AHandGoesUp(), AHandGoesUp::chance, 1, 1);
        int[] choices = {1, 10, 45, 120, 210, 252, 210, 120, 45, 10, 1};
        for (int waited = 0; waited <= 10; waited++) {
            due("32 all the most, " + waited, trials(10, waited, 99, 0), AHandGoesUp::chance, 1, choices[waited]);
            due("32 all the least, " + waited, trials(10, waited, 0, 99), AHandGoesUp::chance, 1, 1);
            due("32 all alike, " + waited, trials(10, waited, 99, 99), AHandGoesUp::chance, 1, 1);
            due("32 no hands, " + waited, trials(10, waited, 0, 0), AHandGoesUp::chance, 1, 1);
        }
        due("32 one that waited", trials(1, 1, 5, 0), AHandGoesUp::chance, 1, 1);
        due("32 one that did not", trials(1, 0, 0, 5), AHandGoesUp::chance, 1, 1);
    }

    private static void chanceAsManyOrMore() {
        AHandGoesUp x = trials(2, 1, 50, 49);
        due("32 one more", x, AHandGoesUp::chance, 1, 2);
        due("32 as many", trials(2, 1, 50, 50), AHandGoesUp::chance, 1, 1);
        due("32 one less", trials(2, 1, 49, 50), AHandGoesUp::chance, 1, 1);
        // 50 and 48 of 50, 49, 49, 48: together as many as 49 and 49
        AHandGoesUp y = new AHandGoesUp();
        y.trial(50, true);
        y.trial(49, false);
        y.trial(49, false);
        y.trial(48, true);
        due("32 together as many", y, AHandGoesUp::chance, 2, 3);
        // only those that waited, and all of them
        AHandGoesUp z = new AHandGoesUp();
        z.trial(1, false);
        z.trial(2, false);
        z.trial(4, true);
        z.trial(8, false);
        due("32 two of four", z, AHandGoesUp::chance, 1, 2);
        z.trial(16, true);
        // 20 of ten pairs: 20, 24
        due("32 two of ten", z, AHandGoesUp::chance, 1, 5);
    }

    // ---- 33: until

    private static void untilRefuses() {
        for (Bounds.Made scene : new Bounds.Made[] {AHandGoesUp::new, Bounds::full}) {
            bounds.takesFraction("33 n", 1, 12, OUTSIDE, scene, AHandGoesUp::until);
        }
    }

    private static void untilOfEach() {
        long[] above = {1, 3, 11, 25, 137, 147, 363, 761, 7129, 7381, 83711, 86021};
        long[] below = {1, 1, 2, 3, 12, 10, 20, 35, 280, 252, 2520, 2310};
        AHandGoesUp x = new AHandGoesUp();
        for (int n = 1; n <= 12; n++) {
            int sticks = n;
            due("33 until " + n, x, (y, upper) -> y.until(sticks, upper), above[n - 1], below[n - 1]);
        }
    }
}
