/** TAPES: promises 23 to 27, boundary case by boundary case. */
public final class TapesBoundsTest {
    private static final int OUTSIDE = -2, FULL = -4;
    private static final long TWELVE_TO_12 = 8_916_100_448_256L;
    private static final Bounds bounds = new Bounds();

    private static void due(String call, long got, long want) {
        bounds.due(call, got, want);
    }

    private static void due(String call, AHandGoesUp x, Bounds.Fraction part, long above, long below) {
        bounds.due(call, x, part, above, below);
    }

    public static void main(String[] args) {
        tapeRefusesHands();
        tapeRefusesWhoIsNotUp();
        tapesAreTwelve();
        untapeOfNoneAndOfAll();
        groupsRefuse();
        cameAtItsEnds();
        dueAtItsEnds();
        dueInLeastTerms();
        luckOfNoTapes();
        luckAtItsEnds();
        luckAsManyOrMore();
        nothingIsChanged();
        bounds.end();
    }

    private static Bounds.Made[] scenes() {
        return new Bounds.Made[] {AHandGoesUp::new, Bounds::lived};
    }

    // ---- 23: tape

    private static void tapeRefusesHands() {
        for (Bounds.Made scene : scenes()) {
            for (int one = 0; one < 12; one++) {
                int taken = one;
                int bit = 1 << one;
                due("23 one hand, " + one, scene.make().tape(bit, one), scene.make().count(2) + 1);
                due("23 all hands, " + one, scene.make().tape(4095, one), scene.make().count(2) + 1);
                for (int hands : new int[] {0, 4096 | bit, Bounds.LEAST, Bounds.LEAST | bit, -1, Bounds.MOST, -4096 | bit}) {
                    bounds.refuses("23 hands " + hands + " " + one, OUTSIDE, scene, x -> x.tape(hands, taken));
                }
            }
            bounds.refuses("23 hand 12", OUTSIDE, scene, x -> x.tape(4096, 12));
            bounds.refuses("23 hand 31", OUTSIDE, scene, x -> x.tape(Bounds.LEAST, 31));
            for (int hands : Bounds.beyond(1, 4095)) {
                bounds.refuses("23 hands " + hands, OUTSIDE, scene, x -> x.tape(hands, 0));
            }
        }
    }

    private static void tapeRefusesWhoIsNotUp() {
        for (Bounds.Made scene : scenes()) {
            for (int taken : Bounds.beyond(0, 11)) {
                bounds.refuses("23 of all " + taken, OUTSIDE, scene, x -> x.tape(4095, taken));
                bounds.refuses("23 of 0 " + taken, OUTSIDE, scene, x -> x.tape(1, taken));
                bounds.refuses("23 of none " + taken, OUTSIDE, scene, x -> x.tape(0, taken));
            }
            for (int one = 0; one < 12; one++) {
                int taken = one;
                bounds.refuses("23 all but " + one, OUTSIDE, scene, x -> x.tape(4095 & ~(1 << taken), taken));
                bounds.refuses("23 only another than " + one, OUTSIDE, scene, x -> x.tape(1 << (taken + 1) % 12, taken));
            }
        }
    }

    private static void tapesAreTwelve() {
        AHandGoesUp x = new AHandGoesUp();
        for (int i = 1; i <= 12; i++) {
            due("23 tape " + i, x.tape(1 << i - 1, i - 1), i);
            due("23 so many", x.count(2), i);
        }
        due("23 a thirteenth", x.tape(1, 0), FULL);
        due("23 still twelve", x.count(2), 12);
        for (int one = 0; one < 12; one++) {
            due("23 none is pushed out, " + one, x.came(1 << one), 1);
            int taken = one;
            bounds.refuses("23 full " + one, FULL, Bounds::full, y -> y.tape(4095, taken));
            bounds.refuses("23 full, not UP " + one, OUTSIDE, Bounds::full, y -> y.tape(4095 & ~(1 << taken), taken));
        }
        for (int hands : Bounds.beyond(1, 4095)) {
            bounds.refuses("23 OUTSIDE hands before FULL", OUTSIDE, Bounds::full, y -> y.tape(hands, 0));
        }
        for (int taken : Bounds.beyond(0, 11)) {
            bounds.refuses("23 OUTSIDE taken before FULL", OUTSIDE, Bounds::full, y -> y.tape(4095, taken));
        }
    }

    // ---- 24: untape

    private static void untapeOfNoneAndOfAll() {
        AHandGoesUp x = new AHandGoesUp();
        for (int tapes : new int[] {0, 1, 12, 11}) {
            for (int i = 0; i < tapes; i++) {
                x.tape(4095, i);
            }
            due("24 untape " + tapes, x.untape(), tapes);
            due("24 none left", x.count(2), 0);
            due("24 none came", x.came(4095), 0);
            due("24 none is due", x, (y, upper) -> y.due(4095, upper), 0, 1);
            due("24 none by luck", x, (y, upper) -> y.luck(4095, upper), 1, 1);
            due("24 once more", x.untape(), 0);
        }
        AHandGoesUp full = Bounds.full();
        due("24 full", full.untape(), 12);
        due("24 trials stay", full.count(3), 10);
        due("24 the class stays", full.count(1), 12);
        for (int i = 1; i <= 12; i++) {
            due("24 room for twelve", full.tape(2048, 11), i);
        }
        due("24 and no more", full.tape(2048, 11), FULL);
        due("24 the new ones", full.came(2048), 12);
    }

    // ---- 25 to 27: came, due, luck

    private static void groupsRefuse() {
        for (Bounds.Made scene : new Bounds.Made[] {AHandGoesUp::new, Bounds::lived, Bounds::full}) {
            bounds.takes("25 group", 0, 4095, OUTSIDE, scene, AHandGoesUp::came);
            bounds.takesFraction("26 group", 0, 4095, OUTSIDE, scene, AHandGoesUp::due);
            bounds.takesFraction("27 group", 0, 4095, OUTSIDE, scene, AHandGoesUp::luck);
        }
    }

    private static AHandGoesUp tapes(int many, int hands, int taken) {
        AHandGoesUp x = new AHandGoesUp();
        for (int i = 0; i < many; i++) {
            x.tape(hands, taken);
        }
        return x;
    }

    private static void cameAtItsEnds() {
        AHandGoesUp x = tapes(12, 4095, 11);
        due("25 the last of all", x.came(2048), 12);
        due("25 all others", x.came(2047), 0);
        due("25 all", x.came(4095), 12);
        due("25 of nobody", x.came(0), 0);
        AHandGoesUp y = tapes(12, 4095, 0);
        due("25 the first of all", y.came(1), 12);
        due("25 all but the first", y.came(4094), 0);
        // being UP is not being taken
        due("25 only UP", tapes(1, 3, 0).came(2), 0);
    }

    private static void dueAtItsEnds() {
        AHandGoesUp x = tapes(12, 4095, 11);
        due("26 one of twelve, twelve times", x, (y, upper) -> y.due(1, upper), 1, 1);
        due("26 eleven of twelve", x, (y, upper) -> y.due(2047, upper), 11, 1);
        due("26 all", x, (y, upper) -> y.due(4095, upper), 12, 1);
        due("26 of nobody", x, (y, upper) -> y.due(0, upper), 0, 1);
        AHandGoesUp y = tapes(1, 4095, 0);
        due("26 one of twelve", y, (z, upper) -> z.due(2048, upper), 1, 12);
        due("26 eleven of twelve, once", y, (z, upper) -> z.due(4094, upper), 11, 12);
        AHandGoesUp alone = tapes(12, 1, 0);
        due("26 one alone", alone, (z, upper) -> z.due(1, upper), 12, 1);
        due("26 another", alone, (z, upper) -> z.due(4094, upper), 0, 1);
    }

    private static void dueInLeastTerms() {
        AHandGoesUp x = new AHandGoesUp();
        long[] above = {1, 3, 11, 25, 137, 49, 363, 761, 7129, 7381, 83711, 86021};
        long[] below = {1, 2, 6, 12, 60, 20, 140, 280, 2520, 2520, 27720, 27720};
        for (int i = 0; i < 12; i++) {
            x.tape((2 << i) - 1, 0);
            due("26 a first, a half, and so on, " + i, x, (y, upper) -> y.due(1, upper), above[i], below[i]);
            due("26 all, " + i, x, (y, upper) -> y.due(4095, upper), i + 1, 1);
        }
        due("26 only in the last", x, (y, upper) -> y.due(2048, upper), 1, 12);
    }

    private static void luckOfNoTapes() {
        for (int group : new int[] {0, 1, 2048, 4095}) {
            due("27 no tapes", new AHandGoesUp(), (x, upper) -> x.luck(group, upper), 1, 1);
        }
    }

    private static void luckAtItsEnds() {
        AHandGoesUp x = tapes(12, 4095, 11);
        due("27 one of twelve, twelve times", x, (y, upper) -> y.luck(2048, upper), 1, TWELVE_TO_12);
        due("27 none is as many", x, (y, upper) -> y.luck(2047, upper), 1, 1);
        due("27 nobody", x, (y, upper) -> y.luck(0, upper), 1, 1);
        due("27 all", x, (y, upper) -> y.luck(4095, upper), 1, 1);
        due("27 six of twelve, twelve times", x, (y, upper) -> y.luck(2048 | 31, upper), 1, 4096);
        due("27 one alone", tapes(12, 1, 0), (y, upper) -> y.luck(1, upper), 1, 1);
        due("27 that could not be", tapes(12, 1, 0), (y, upper) -> y.luck(4094, upper), 1, 1);
        // eleven or more: 12 times 11 ways, and one
        AHandGoesUp y = tapes(11, 4095, 11);
        y.tape(4095, 0);
        due("27 eleven of twelve", y, (z, upper) -> z.luck(2048, upper), 133, TWELVE_TO_12);
    }

    private static void luckAsManyOrMore() {
        AHandGoesUp x = tapes(1, 3, 0);
        due("27 once as many", x, (y, upper) -> y.luck(1, upper), 1, 2);
        due("27 none or more", x, (y, upper) -> y.luck(2, upper), 1, 1);
        x.tape(3, 1);
        due("27 one or two of two", x, (y, upper) -> y.luck(1, upper), 3, 4);
        x.tape(3, 0);
        due("27 two or three of three", x, (y, upper) -> y.luck(1, upper), 1, 2);
        due("27 one or more of three", x, (y, upper) -> y.luck(2, upper), 7, 8);
        // where none of the group is UP, none can be
        x.tape(12, 2);
        due("27 and one of others", x, (y, upper) -> y.luck(1, upper), 1, 2);
        due("27 all that are UP", x, (y, upper) -> y.luck(15, upper), 1, 1);
    }

    private static void nothingIsChanged() {
        AHandGoesUp x = Bounds.full();
        for (int group = 0; group < 4096; group += 315) {
            x.came(group);
            x.due(group, true);
            x.luck(group, false);
        }
        due("25 to 27 change nothing", Bounds.all(x).equals(Bounds.all(Bounds.full())) ? 1 : 0, 1);
    }
}
