/** CHANCES, RULES by chances, WAIT: promises 8 to 17, boundary case by boundary case. */
public final class ChancesBoundsTest {
    private static final int UNKNOWN = -1, OUTSIDE = -2, STATE = -3, NONE = -9;
    private static final int FRONT = 0, QUICK = 1, LOT = 2, STICKS = 3, FEWEST = 4;
    private static final long TEN_TO_12 = 1_000_000_000_000L, NINE_TO_12 = 282_429_536_481L;
    private static final Bounds bounds = new Bounds();

    private static void due(String call, long got, long want) {
        bounds.due(call, got, want);
    }

    private static void due(String call, AHandGoesUp x, Bounds.Fraction part, long above, long below) {
        bounds.due(call, x, part, above, below);
    }

    public static void main(String[] args) {
        upRefuses();
        upAtItsEnds();
        meanAndQuietAtTheirEnds();
        quietOfEachKind();
        handsRefuse();
        handsAtTheirEnds();
        givenRefuses();
        givenWhatCanNotBe();
        givenAtItsEnds();
        likelyRefuses();
        likelyOfLikeOnes();
        takenRefuses();
        takenAtItsEnds();
        takenByFront();
        takenByQuickAndFewest();
        rightRefuses();
        rightAtItsEnds();
        mostlyRefuses();
        mostlyNone();
        mostlyOfLikeOnes();
        awaitRefuses();
        awaitAtItsEnds();
        awaitOfLikeOnes();
        nothingIsChanged();
        bounds.end();
    }

    private static AHandGoesUp twelve() {
        return Bounds.classOf(Bounds.TWELVE);
    }

    // ---- 8: up

    private static void upRefuses() {
        bounds.takes("8 pupil of 3", 0, 2, UNKNOWN, Bounds::lived, (x, pupil) -> x.up(pupil, 0));
        bounds.takes("8 pupil of 12", 0, 11, UNKNOWN, Bounds::full, (x, pupil) -> x.up(pupil, 9));
        bounds.takes("8 w", 0, 9, OUTSIDE, Bounds::lived, (x, w) -> x.up(1, w));
        bounds.takes("8 w of 12", 0, 9, OUTSIDE, Bounds::full, (x, w) -> x.up(11, w));
        for (int w : Bounds.beyond(0, 9)) {
            bounds.refuses("8 UNKNOWN before OUTSIDE 3", UNKNOWN, Bounds::lived, x -> x.up(3, w));
            bounds.refuses("8 UNKNOWN before OUTSIDE -1", UNKNOWN, Bounds::lived, x -> x.up(-1, w));
            bounds.refuses("8 UNKNOWN of nobody", UNKNOWN, AHandGoesUp::new, x -> x.up(0, w));
        }
    }

    private static void upAtItsEnds() {
        for (int tenths = 0; tenths < 10; tenths++) {
            for (int needs = 0; needs < 10; needs++) {
                AHandGoesUp x = Bounds.classOf("P00" + tenths + needs + "5F01" + tenths + needs + "5");
                for (int w = 0; w < 10; w++) {
                    due("8 P " + tenths + " " + needs + " at " + w, x.up(0, w), needs <= w ? tenths : 0);
                    due("8 F " + tenths + " " + needs + " at " + w, x.up(1, w), 10);
                }
            }
        }
        AHandGoesUp y = Bounds.classOf("P00900F01000");
        due("8 dares 0 in mood 5", y.up(0, 9), 0);
        due("8 F dares 0 in mood 5", y.up(1, 9), 0);
        y.mood(0);
        due("8 dares 0 in mood 0", y.up(0, 0), 9);
        due("8 F dares 0 in mood 0, knows never", y.up(1, 0), 10);
    }

    // ---- 9 and 10: mean, quiet

    private static void meanAndQuietAtTheirEnds() {
        for (Bounds.Made scene : new Bounds.Made[] {AHandGoesUp::new, Bounds::lived, Bounds::full}) {
            bounds.takes("9 w", 0, 9, OUTSIDE, scene, AHandGoesUp::mean);
            bounds.takes("10 w", 0, 9, OUTSIDE, scene, AHandGoesUp::quiet);
        }
        AHandGoesUp all = Bounds.alike(12, 'F', "099");
        due("9 twelve at once", all.mean(0), 120);
        due("10 that never know", all.quiet(0), 0);
        AHandGoesUp nine = Bounds.alike(12, 'P', "999");
        due("9 twelve by nine tenths", nine.mean(9), 108);
        due("9 a second before", nine.mean(8), 0);
        due("10 twelve by nine tenths", nine.quiet(9), 0);
        due("10 a second before", nine.quiet(8), 108);
        AHandGoesUp never = Bounds.alike(12, 'P', "009");
        due("9 twelve that never know", never.mean(9), 0);
        due("10 twelve that never know", never.quiet(9), 0);
        due("9 one", Bounds.alike(1, 'P', "105").mean(0), 1);
        due("10 one", Bounds.alike(1, 'P', "104").quiet(0), 1);
    }

    private static void quietOfEachKind() {
        AHandGoesUp x = Bounds.classOf("P00545F01545P02444F03444");
        // P too soon, F is UP, P and F dare not
        due("10 at 3", x.quiet(3), 5 + 4 + 4);
        due("10 at 4", x.quiet(4), 4 + 4);
        x.mood(4);
        due("10 all dare, at 3", x.quiet(3), 5 + 4);
        due("10 all dare, at 4", x.quiet(4), 0);
        x.mood(6);
        due("10 none dares", x.quiet(9), 18);
    }

    // ---- 11: hands

    private static void handsRefuse() {
        for (Bounds.Made scene : new Bounds.Made[] {AHandGoesUp::new, Bounds::lived, Bounds::full}) {
            bounds.takesFraction("11 w", 0, 9, OUTSIDE, scene, (x, w, upper) -> x.hands(w, 0, upper));
            bounds.takesFraction("11 n", 0, 12, OUTSIDE, scene, (x, n, upper) -> x.hands(9, n, upper));
            bounds.refusesFraction("11 both", OUTSIDE, scene, (x, upper) -> x.hands(10, 13, upper));
            bounds.refusesFraction("11 both low", OUTSIDE, scene, (x, upper) -> x.hands(-1, -1, upper));
        }
    }

    private static void handsAtTheirEnds() {
        AHandGoesUp nine = Bounds.alike(12, 'P', "909");
        due("11 all of nine tenths", nine, (x, upper) -> x.hands(0, 12, upper), NINE_TO_12, TEN_TO_12);
        due("11 none of nine tenths", nine, (x, upper) -> x.hands(0, 0, upper), 1, TEN_TO_12);
        due("11 one of nine tenths", nine, (x, upper) -> x.hands(0, 1, upper), 27, TEN_TO_12 / 4);
        AHandGoesUp sure = Bounds.alike(12, 'F', "999");
        AHandGoesUp never = Bounds.alike(12, 'P', "009");
        for (int n = 0; n <= 12; n++) {
            int hands = n;
            due("11 sure " + n, sure, (x, upper) -> x.hands(0, hands, upper), n == 12 ? 1 : 0, 1);
            due("11 never " + n, never, (x, upper) -> x.hands(9, hands, upper), n == 0 ? 1 : 0, 1);
        }
        AHandGoesUp two = Bounds.classOf("P00505P01505");
        due("11 more than there are", two, (x, upper) -> x.hands(9, 3, upper), 0, 1);
        due("11 as many as there are", two, (x, upper) -> x.hands(9, 2, upper), 1, 4);
        two.mood(6);
        due("11 none dares", two, (x, upper) -> x.hands(9, 0, upper), 1, 1);
        AHandGoesUp late = Bounds.classOf("P00595");
        due("11 at 8", late, (x, upper) -> x.hands(8, 0, upper), 1, 1);
        due("11 at 9", late, (x, upper) -> x.hands(9, 0, upper), 1, 2);
    }

    // ---- 12: given

    private static void givenRefuses() {
        for (Bounds.Made scene : new Bounds.Made[] {AHandGoesUp::new, Bounds::full}) {
            bounds.takesFraction("12 w", 0, 9, OUTSIDE, scene, (x, w, upper) -> x.given(w, 0, 0, upper));
            bounds.takesFraction("12 n", 0, 12, OUTSIDE, scene, (x, n, upper) -> x.given(0, 0, n, upper));
        }
        bounds.takesFraction("12 h", 0, 12, OUTSIDE, ChancesBoundsTest::twelve,
                (x, h, upper) -> x.given(9, h, 12, upper));
        for (int beyond : Bounds.beyond(0, 12)) {
            bounds.refusesFraction("12 OUTSIDE h", OUTSIDE, Bounds::lived, (x, upper) -> x.given(9, beyond, 0, upper));
            // that twelve of three are UP can't be
            bounds.refusesFraction("12 n, OUTSIDE before STATE", OUTSIDE, Bounds::lived,
                    (x, upper) -> x.given(9, 12, beyond, upper));
        }
        for (int beyond : Bounds.beyond(0, 9)) {
            bounds.refusesFraction("12 w, OUTSIDE before STATE", OUTSIDE, Bounds::lived,
                    (x, upper) -> x.given(beyond, 12, 0, upper));
        }
    }

    private static void givenWhatCanNotBe() {
        for (int h = 1; h <= 12; h++) {
            int hands = h;
            bounds.refusesFraction("12 nobody", STATE, AHandGoesUp::new, (x, upper) -> x.given(9, hands, 0, upper));
        }
        for (int h = 4; h <= 12; h++) {
            int hands = h;
            bounds.refusesFraction("12 of three", STATE, Bounds::lived, (x, upper) -> x.given(9, hands, 0, upper));
        }
        bounds.refusesFraction("12 too soon", STATE, Bounds::full, (x, upper) -> x.given(2, 1, 0, upper));
        Bounds.Made ever = () -> Bounds.alike(1, 'F', "505");
        bounds.refusesFraction("12 F is UP for sure", STATE, ever, (x, upper) -> x.given(0, 0, 0, upper));
        Bounds.Made never = () -> Bounds.alike(1, 'P', "005");
        bounds.refusesFraction("12 P never knows", STATE, never, (x, upper) -> x.given(9, 1, 1, upper));
        Bounds.Made shy = () -> Bounds.alike(1, 'F', "904");
        bounds.refusesFraction("12 F dares not", STATE, shy, (x, upper) -> x.given(9, 1, 1, upper));
        AHandGoesUp hardly = Bounds.alike(12, 'P', "105");
        due("12 it hardly can be", hardly, (x, upper) -> x.given(9, 12, 12, upper), 1, 1);
        due("12 so it hardly is", hardly, (x, upper) -> x.hands(9, 12, upper), 1, TEN_TO_12);
    }

    private static void givenAtItsEnds() {
        AHandGoesUp sure = Bounds.alike(12, 'F', "999");
        due("12 all know", sure, (x, upper) -> x.given(0, 12, 12, upper), NINE_TO_12, TEN_TO_12);
        due("12 none knows", sure, (x, upper) -> x.given(0, 12, 0, upper), 1, TEN_TO_12);
        AHandGoesUp shy = Bounds.alike(12, 'P', "900");
        due("12 all know silently", shy, (x, upper) -> x.given(9, 0, 12, upper), NINE_TO_12, TEN_TO_12);
        due("12 none knows silently", shy, (x, upper) -> x.given(9, 0, 0, upper), 1, TEN_TO_12);
        AHandGoesUp two = Bounds.classOf("P00505P01505");
        due("12 fewer know than are UP", two, (x, upper) -> x.given(9, 2, 1, upper), 0, 1);
        due("12 as many", two, (x, upper) -> x.given(9, 2, 2, upper), 1, 1);
        due("12 more than there are", two, (x, upper) -> x.given(9, 2, 3, upper), 0, 1);
        AHandGoesUp both = Bounds.classOf("P00305F01205");
        // F is UP anyhow: of two hands the other knows for sure
        due("12 two hands, one knows", both, (x, upper) -> x.given(9, 2, 1, upper), 4, 5);
        due("12 two hands, both know", both, (x, upper) -> x.given(9, 2, 2, upper), 1, 5);
        due("12 one hand, none knows", both, (x, upper) -> x.given(9, 1, 0, upper), 4, 5);
        due("12 one hand, both know", both, (x, upper) -> x.given(9, 1, 2, upper), 0, 1);
    }

    // ---- 13: likely

    private static void likelyRefuses() {
        for (Bounds.Made scene : new Bounds.Made[] {AHandGoesUp::new, Bounds::full}) {
            bounds.takes("13 w", 0, 9, OUTSIDE, scene, (x, w) -> x.likely(w, 0));
        }
        bounds.takes("13 h", 0, 12, OUTSIDE, ChancesBoundsTest::twelve, (x, h) -> x.likely(9, h));
        for (int beyond : Bounds.beyond(0, 9)) {
            bounds.refuses("13 OUTSIDE before STATE", OUTSIDE, Bounds::lived, x -> x.likely(beyond, 12));
        }
        for (int beyond : Bounds.beyond(0, 12)) {
            bounds.refuses("13 h", OUTSIDE, Bounds::lived, x -> x.likely(0, beyond));
        }
        for (int h = 4; h <= 12; h++) {
            int hands = h;
            bounds.refuses("13 so many of three", STATE, Bounds::lived, x -> x.likely(9, hands));
            bounds.refuses("13 so many of nobody", STATE, AHandGoesUp::new, x -> x.likely(9, hands));
        }
        bounds.refuses("13 never", STATE, () -> Bounds.alike(12, 'P', "009"), x -> x.likely(9, 1));
        bounds.refuses("13 ever", STATE, () -> Bounds.alike(12, 'F', "909"), x -> x.likely(9, 11));
    }

    private static void likelyOfLikeOnes() {
        // by halves: of one 0 and 1 are like, of three 1 and 2, of eleven 5 and 6
        due("13 one silent", Bounds.alike(1, 'P', "500").likely(9, 0), 0);
        due("13 three silent", Bounds.alike(3, 'P', "500").likely(9, 0), 1);
        due("13 eleven silent", Bounds.alike(11, 'P', "500").likely(9, 0), 5);
        due("13 twelve silent", Bounds.alike(12, 'P', "500").likely(9, 0), 6);
        due("13 one F", Bounds.alike(1, 'F', "505").likely(9, 1), 0);
        due("13 three F", Bounds.alike(3, 'F', "505").likely(9, 3), 1);
        // by two tenths of four: 0 and 1 are like
        due("13 four by two tenths", Bounds.alike(4, 'P', "200").likely(9, 0), 0);
        due("13 five by two tenths", Bounds.alike(5, 'F', "205").likely(9, 5), 1);
        due("13 nine by nine tenths, like ones", Bounds.alike(9, 'F', "905").likely(9, 9), 8);
        due("13 none ever knows", Bounds.alike(12, 'F', "005").likely(9, 12), 0);
        due("13 twelve by nine tenths", Bounds.alike(12, 'F', "905").likely(9, 12), 11);
        due("13 eleven by nine tenths", Bounds.alike(11, 'F', "905").likely(9, 11), 10);
        due("13 all of twelve", Bounds.alike(12, 'P', "105").likely(9, 12), 12);
        due("13 none of nobody", new AHandGoesUp().likely(9, 0), 0);
    }

    // ---- 14: taken

    private static void takenRefuses() {
        for (int rule = 0; rule < 5; rule++) {
            int by = rule;
            bounds.takesFraction("14 pupil of 3", 0, 2, UNKNOWN, Bounds::lived,
                    (x, pupil, upper) -> x.taken(pupil, 9, by, upper));
            bounds.takesFraction("14 pupil of 12", 0, 11, UNKNOWN, Bounds::full,
                    (x, pupil, upper) -> x.taken(pupil, 0, by, upper));
            bounds.takesFraction("14 w", 0, 9, OUTSIDE, Bounds::lived, (x, w, upper) -> x.taken(2, w, by, upper));
            bounds.refusesFraction("14 nobody", UNKNOWN, AHandGoesUp::new, (x, upper) -> x.taken(0, 9, by, upper));
        }
        bounds.takesFraction("14 rule", 0, 4, UNKNOWN, Bounds::lived, (x, rule, upper) -> x.taken(1, 9, rule, upper));
        bounds.takesFraction("14 rule of 12", 0, 4, UNKNOWN, Bounds::full,
                (x, rule, upper) -> x.taken(11, 0, rule, upper));
        for (int w : Bounds.beyond(0, 9)) {
            bounds.refusesFraction("14 UNKNOWN pupil before OUTSIDE", UNKNOWN, Bounds::lived,
                    (x, upper) -> x.taken(3, w, LOT, upper));
            bounds.refusesFraction("14 UNKNOWN rule before OUTSIDE", UNKNOWN, Bounds::lived,
                    (x, upper) -> x.taken(2, w, 5, upper));
        }
        bounds.refusesFraction("14 all three", UNKNOWN, Bounds::full, (x, upper) -> x.taken(-1, 10, -1, upper));
    }

    private static void takenAtItsEnds() {
        AHandGoesUp sure = Bounds.alike(12, 'F', "099");
        AHandGoesUp nine = Bounds.alike(12, 'P', "995");
        for (int pupil : new int[] {0, 11}) {
            due("14 lot of twelve", sure, (x, upper) -> x.taken(pupil, 0, LOT, upper), 1, 12);
            due("14 sticks of twelve", sure, (x, upper) -> x.taken(pupil, 0, STICKS, upper), 1, 12);
            due("14 sticks, not UP", nine, (x, upper) -> x.taken(pupil, 0, STICKS, upper), 1, 12);
            due("14 lot, not UP", nine, (x, upper) -> x.taken(pupil, 8, LOT, upper), 0, 1);
            due("14 lot by nine tenths", nine, (x, upper) -> x.taken(pupil, 9, LOT, upper),
                    333_333_333_333L, 4 * TEN_TO_12);
        }
        due("14 quick, the last of nine tenths", nine, (x, upper) -> x.taken(11, 9, QUICK, upper), 9, TEN_TO_12);
        due("14 quick, the first", nine, (x, upper) -> x.taken(0, 9, QUICK, upper), 9, 10);
        due("14 front, the last", nine, (x, upper) -> x.taken(11, 9, FRONT, upper), 9, TEN_TO_12);
        due("14 one alone by lot", Bounds.alike(1, 'P', "705"), (x, upper) -> x.taken(0, 0, LOT, upper), 7, 10);
        due("14 one alone by sticks", Bounds.alike(1, 'P', "009"), (x, upper) -> x.taken(0, 0, STICKS, upper), 1, 1);
        AHandGoesUp never = Bounds.classOf("P00005F01000");
        for (int rule : new int[] {FRONT, QUICK, LOT, FEWEST}) {
            due("14 never knows, by " + rule, never, (x, upper) -> x.taken(0, 9, rule, upper), 0, 1);
            due("14 F dares not, by " + rule, never, (x, upper) -> x.taken(1, 9, rule, upper), 0, 1);
        }
    }

    /** Of each two places the nearer, the nearer to the middle, the least column: whichever is told first. */
    private static void takenByFront() {
        int[] order = {2, 3, 1, 4, 0, 5};
        for (int one = 0; one < 24; one++) {
            for (int other = 0; other < 24; other++) {
                if (one == other) {
                    continue;
                }
                int nearer = one / 6 * 6 + indexOf(order, one % 6);
                int farther = other / 6 * 6 + indexOf(order, other % 6);
                int first = nearer < farther ? 0 : 1;
                AHandGoesUp x = Bounds.classOf("F" + one / 6 + one % 6 + "009F" + other / 6 + other % 6 + "009");
                due("14 front of " + one + " " + other, x, (y, upper) -> y.taken(first, 0, FRONT, upper), 1, 1);
                due("14 not the other", x, (y, upper) -> y.taken(1 - first, 0, FRONT, upper), 0, 1);
                due("16 mostly", x.mostly(0, FRONT), first);
                due("21 ask", x.ask(0, 0, FRONT, false), first);
            }
        }
    }

    private static int indexOf(int[] row, int value) {
        for (int i = 0; i < row.length; i++) {
            if (row[i] == value) {
                return i;
            }
        }
        return -1;
    }

    private static void takenByQuickAndFewest() {
        for (int one = 0; one < 10; one++) {
            for (int other = 0; other < 10; other++) {
                AHandGoesUp x = Bounds.classOf("F350" + one + "9F020" + other + "9");
                int first = one <= other ? 0 : 1;
                due("14 quick " + one + " " + other, x, (y, upper) -> y.taken(first, 0, QUICK, upper), 1, 1);
                due("14 not quick", x, (y, upper) -> y.taken(1 - first, 0, QUICK, upper), 0, 1);
                due("21 ask quick", x.ask(0, 0, QUICK, false), first);
                // now this one was TAKEN once, the other never
                due("14 fewest", x, (y, upper) -> y.taken(1 - first, 0, FEWEST, upper), 1, 1);
                due("21 ask fewest", x.ask(0, 0, FEWEST, false), 1 - first);
                due("14 fewest, of like ones", x, (y, upper) -> y.taken(0, 0, FEWEST, upper), 1, 1);
                due("21 ask fewest, of like ones", x.ask(0, 0, FEWEST, false), 0);
            }
        }
    }

    // ---- 15: right

    private static void rightRefuses() {
        for (Bounds.Made scene : new Bounds.Made[] {AHandGoesUp::new, Bounds::lived, Bounds::full}) {
            bounds.takesFraction("15 rule", 0, 4, UNKNOWN, scene, (x, rule, upper) -> x.right(9, rule, upper));
            for (int rule = 0; rule < 5; rule++) {
                int by = rule;
                bounds.takesFraction("15 w", 0, 9, OUTSIDE, scene, (x, w, upper) -> x.right(w, by, upper));
            }
            for (int w : Bounds.beyond(0, 9)) {
                bounds.refusesFraction("15 UNKNOWN before OUTSIDE", UNKNOWN, scene, (x, upper) -> x.right(w, 5, upper));
            }
        }
    }

    private static void rightAtItsEnds() {
        AHandGoesUp nine = Bounds.alike(12, 'P', "995");
        AHandGoesUp bold = Bounds.alike(12, 'F', "995");
        AHandGoesUp never = Bounds.alike(12, 'F', "005");
        AHandGoesUp shy = Bounds.alike(12, 'P', "900");
        for (int rule : new int[] {FRONT, QUICK, LOT, FEWEST}) {
            due("15 one of nine tenths, " + rule, nine, (x, upper) -> x.right(9, rule, upper), TEN_TO_12 - 1, TEN_TO_12);
            due("15 a second before, " + rule, nine, (x, upper) -> x.right(8, rule, upper), 0, 1);
            due("15 none dares, " + rule, shy, (x, upper) -> x.right(9, rule, upper), 0, 1);
            due("15 all F, " + rule, bold, (x, upper) -> x.right(9, rule, upper), 9, 10);
        }
        for (int rule = 0; rule < 5; rule++) {
            int by = rule;
            due("15 never, " + rule, never, (x, upper) -> x.right(9, by, upper), 0, 1);
            due("15 F knows, but needs more, " + rule, bold, (x, upper) -> x.right(8, by, upper), 0, 1);
            due("15 of nobody, " + rule, new AHandGoesUp(), (x, upper) -> x.right(9, by, upper), 0, 1);
        }
        due("15 sticks, UP or not", shy, (x, upper) -> x.right(9, STICKS, upper), 9, 10);
        due("15 sticks, in time", nine, (x, upper) -> x.right(9, STICKS, upper), 9, 10);
        due("15 sticks, too soon", nine, (x, upper) -> x.right(8, STICKS, upper), 0, 1);
    }

    // ---- 16: mostly

    private static void mostlyRefuses() {
        for (Bounds.Made scene : new Bounds.Made[] {AHandGoesUp::new, Bounds::lived, Bounds::full}) {
            bounds.takes("16 rule", 0, 4, UNKNOWN, scene, (x, rule) -> x.mostly(9, rule));
            for (int rule = 0; rule < 5; rule++) {
                int by = rule;
                bounds.takes("16 w", 0, 9, OUTSIDE, scene, (x, w) -> x.mostly(w, by));
            }
            for (int w : Bounds.beyond(0, 9)) {
                bounds.refuses("16 UNKNOWN before OUTSIDE", UNKNOWN, scene, x -> x.mostly(w, -1));
            }
        }
    }

    private static void mostlyNone() {
        AHandGoesUp shy = Bounds.alike(12, 'F', "904");
        AHandGoesUp never = Bounds.alike(12, 'P', "005");
        AHandGoesUp late = Bounds.alike(12, 'P', "995");
        for (int rule : new int[] {FRONT, QUICK, LOT, FEWEST}) {
            due("16 none dares, " + rule, shy.mostly(9, rule), NONE);
            due("16 none ever knows, " + rule, never.mostly(9, rule), NONE);
            due("16 too soon for all, " + rule, late.mostly(8, rule), NONE);
            due("16 just not, " + rule, late.mostly(9, rule), rule == FRONT ? 2 : 0);
            due("16 nobody, " + rule, new AHandGoesUp().mostly(9, rule), NONE);
        }
        due("16 sticks, none dares", shy.mostly(9, STICKS), 0);
        due("16 sticks, too soon", late.mostly(0, STICKS), 0);
        due("16 sticks, nobody", new AHandGoesUp().mostly(0, STICKS), NONE);
        // hardly ever, but it can be
        for (int rule = 0; rule < 5; rule++) {
            due("16 one alone by a tenth, " + rule, Bounds.alike(1, 'P', "105").mostly(0, rule), 0);
        }
        due("16 the last one alone", Bounds.classOf("P00005P01005P35105").mostly(9, LOT), 2);
    }

    private static void mostlyOfLikeOnes() {
        due("16 lot, twelve alike", Bounds.alike(12, 'P', "505").mostly(0, LOT), 0);
        due("16 sticks, twelve", Bounds.alike(12, 'P', "505").mostly(0, STICKS), 0);
        // 0 by a half; 1 by half of what is left: like 2, that is sure
        AHandGoesUp x = Bounds.classOf("P02505P03505F01005");
        due("16 front, the likeliest", x.mostly(0, FRONT), 0);
        AHandGoesUp y = Bounds.classOf("F01005P02505");
        due("16 front, like ones by half", y.mostly(0, FRONT), 0);
        AHandGoesUp z = Bounds.classOf("F01005P02605");
        due("16 front, a tenth more", z.mostly(0, FRONT), 1);
        due("16 the last of twelve", Bounds.classOf(Bounds.TWELVE.substring(0, 66) + "P15935").mostly(9, LOT), 11);
    }

    // ---- 17: await

    private static void awaitRefuses() {
        for (Bounds.Made scene : new Bounds.Made[] {AHandGoesUp::new, Bounds::lived, Bounds::full}) {
            bounds.takes("17 v", 0, 99, OUTSIDE, scene, (x, v) -> x.await(v, 0));
            bounds.takes("17 v dearly", 0, 99, OUTSIDE, scene, (x, v) -> x.await(v, 99));
            bounds.takes("17 c", 0, 99, OUTSIDE, scene, (x, c) -> x.await(0, c));
            bounds.takes("17 c for much", 0, 99, OUTSIDE, scene, (x, c) -> x.await(99, c));
            bounds.refuses("17 both", OUTSIDE, scene, x -> x.await(100, 100));
        }
    }

    private static void awaitAtItsEnds() {
        AHandGoesUp nine = Bounds.alike(12, 'P', "995");
        // 10.8 hands for 9 seconds
        due("17 most for most", nine.await(99, 99), 9);
        due("17 is worth 885.6, costs 891", nine.await(82, 99), 0);
        due("17 is worth 896.4, costs 891", nine.await(83, 99), 9);
        due("17 nothing is worth", nine.await(0, 0), 0);
        due("17 nothing for much", nine.await(0, 99), 0);
        due("17 something for nothing", nine.await(1, 0), 9);
        AHandGoesUp all = Bounds.alike(12, 'F', "999");
        due("17 all at once", all.await(99, 0), 0);
        due("17 all at once, dearly", all.await(99, 99), 0);
        AHandGoesUp shy = Bounds.alike(12, 'P', "900");
        due("17 nobody ever", shy.await(99, 0), 0);
        due("17 nobody ever, dearly", shy.await(99, 1), 0);
    }

    private static void awaitOfLikeOnes() {
        for (int needs = 0; needs < 10; needs++) {
            AHandGoesUp x = Bounds.alike(2, 'P', "5" + needs + "5");
            // one hand in the mean from then on
            due("17 the least that brings all, " + needs, x.await(1, 0), needs);
            due("17 worth what it costs, " + needs, x.await(9 * needs, 9), 0);
            due("17 just worth more, " + needs, x.await(9 * needs + 1, 9), needs);
        }
        // 5 tenths from 1, 5 more from 3: at 1 it is 4 less 2, at 3 8 less 6
        AHandGoesUp y = Bounds.classOf("P00515P01535");
        due("17 two like ones", y.await(8, 2), 1);
        due("17 a bit more for v", y.await(9, 2), 3);
        due("17 a bit more for c", y.await(8, 3), 1);
        // only how many are UP in the mean counts, in tenths
        AHandGoesUp z = Bounds.classOf("P00115");
        due("17 a tenth of ten", z.await(10, 1), 0);
        due("17 a tenth of eleven", z.await(11, 1), 1);
    }

    /** What only tells changes nothing either. */
    private static void nothingIsChanged() {
        AHandGoesUp x = Bounds.full();
        for (int w = 0; w < 10; w += 9) {
            x.up(11, w);
            x.mean(w);
            x.quiet(w);
            x.hands(w, 12, true);
            x.given(w, 0, 0, true);
            x.likely(w, 0);
            x.await(99, w);
            for (int rule = 0; rule < 5; rule++) {
                x.taken(0, w, rule, true);
                x.right(w, rule, false);
                x.mostly(w, rule);
            }
        }
        due("8 to 17 change nothing", Bounds.all(x).equals(Bounds.all(Bounds.full())) ? 1 : 0, 1);
    }
}
