/** A method for each promise: ordinary inputs, the edges that the document names, wrong inputs. */
public final class PromisesTest {
    private static final int UNKNOWN = -1, OUTSIDE = -2, STATE = -3, FULL = -4, NONE = -9;
    private static final int FRONT = 0, QUICK = 1, LOT = 2, STICKS = 3, FEWEST = 4;
    private static final int LEAST = Integer.MIN_VALUE, MOST = Integer.MAX_VALUE;
    private static final String TWELVE =
            "P00535P01535P02535P03535P04535P05535P10535P11535P12535P13535P14535P15535";

    private static final Check check = new Check();

    private static void due(String call, long got, long want) {
        check.due(call, got, want);
    }

    private static void due(String call, long above, long below, long wantAbove, long wantBelow) {
        check.due(call, above, below, wantAbove, wantBelow);
    }

    public static void main(String[] args) {
        promise1();
        promise2();
        promise3();
        promise4();
        promise5();
        promise6();
        promise7();
        promise8();
        promise9();
        promise10();
        promise11();
        promise12();
        promise13();
        promise14();
        promise15();
        promise16();
        promise17();
        promise18();
        promise19();
        promise20();
        promise21();
        promise21Draws();
        promise22();
        promise23();
        promise24();
        promise25();
        promise26();
        promise27();
        promise28();
        promise29();
        promise30();
        promise31();
        promise32();
        promise33();
        promise34();
        promise35();
        promise36();
        check.end();
    }

    private static void promise1() {
        due("1 UNKNOWN", AHandGoesUp.UNKNOWN, UNKNOWN);
        due("1 OUTSIDE", AHandGoesUp.OUTSIDE, OUTSIDE);
        due("1 STATE", AHandGoesUp.STATE, STATE);
        due("1 FULL", AHandGoesUp.FULL, FULL);
        due("1 NONE", AHandGoesUp.NONE, NONE);
        AHandGoesUp x = new AHandGoesUp();
        due("1 bytes", x.count(0), 0);
        due("1 pupils", x.count(1), 0);
        due("1 tapes", x.count(2), 0);
        due("1 trials", x.count(3), 0);
        due("1 waited", x.count(4), 0);
        due("1 no pupil 0", x.about(0, 0), UNKNOWN);
        due("1 questions", x.lesson(0), 0);
        due("1 seed", x.seed(0), 0);
        due("1 mood", x.mood(5), 5);
        due("1 nothing kept", x.again(0), STATE);
    }

    private static void promise2() {
        AHandGoesUp x = new AHandGoesUp();
        due("2 n 0", x.write(0, 1), OUTSIDE);
        due("2 n 9", x.write(9, 1), OUTSIDE);
        due("2 n least", x.write(LEAST, 1), OUTSIDE);
        due("2 n most", x.write(MOST, 1), OUTSIDE);
        due("2 nothing came", x.count(0), 0);
        // 'P00' with rubbish above the lowest three
        due("2 lowest", x.write(3, 0x7F7F7F7F7F503030L), 3);
        due("2 order", x.fault(), 3);
        due("2 three more", x.write(3, 0x353335L), 6);
        due("2 all right", x.fault(), NONE);
        due("2 room", x.room(), 1);
        due("2 highest first", x.about(0, 3), 3);
        for (int i = 1; i < 9; i++) {
            x.write(8, -1L);
        }
        due("2 seventy", x.count(0), 70);
        due("2 too long", x.write(3, 0), FULL);
        due("2 nothing comes", x.count(0), 70);
        due("2 OUTSIDE before FULL", x.write(9, 0), OUTSIDE);
        due("2 just full", x.write(2, 0), 72);
        due("2 full", x.write(1, 0), FULL);
        AHandGoesUp y = new AHandGoesUp();
        // a byte above 127 is no letter, though its lowest seven bits are one's
        y.write(1, 'P' + 128);
        due("2 byte 208", y.fault(), 0);
        AHandGoesUp z = new AHandGoesUp();
        z.write(8, -1L);
        due("2 bytes of -1", z.fault(), 0);
    }

    private static void promise3() {
        AHandGoesUp x = new AHandGoesUp();
        due("3 empty", x.wipe(), 0);
        Check.tell(x, "X12");
        due("3 three", x.wipe(), 3);
        due("3 none left", x.count(0), 0);
        due("3 no fault", x.fault(), NONE);
        Check.tell(x, "F23456");
        due("3 new text", x.room(), 1);
        due("3 from its start", x.about(0, 0), 2);
        due("3 six", x.wipe(), 6);
        due("3 class stays", x.count(1), 1);
    }

    private static void faultOf(String signs, int want) {
        AHandGoesUp x = new AHandGoesUp();
        Check.tell(x, signs);
        due("4 fault of " + signs, x.fault(), want);
        due("4 again " + signs, x.fault(), want);
        due("4 stays " + signs, x.count(0), signs.length());
    }

    private static void promise4() {
        faultOf("", NONE);
        faultOf("P00999", NONE);
        faultOf("F35000", NONE);
        faultOf("p00999", 0);
        faultOf("Q", 0);
        faultOf("P4", 1);
        faultOf("P/", 1);
        faultOf("P06", 2);
        faultOf("P0/", 2);
        faultOf("P00:", 3);
        faultOf("P000/", 4);
        faultOf("P0000a", 5);
        faultOf("P", 1);
        faultOf("P0", 2);
        faultOf("P0000", 5);
        faultOf("P00999X", 6);
        faultOf("P00999F", 7);
        faultOf("P00999F00", 8);
        faultOf("P00999F01", 9);
        faultOf("P00999F10", 9);
        faultOf("P00999F01999P00", 14);
        faultOf("P00999F0 999Q", 8);
        faultOf(TWELVE, NONE);
        // a full row: none can sit there, so its figure is the fault
        String rowOfSix = TWELVE.substring(0, 36);
        faultOf(rowOfSix + "P0", 37);
        faultOf(rowOfSix + "P1", 38);
        faultOf(rowOfSix.substring(0, 30) + "P0", 32);
        faultOf(rowOfSix.substring(0, 30) + "P04", 32);
        faultOf("P01000P02000P03000P04000P05000F0", 32);
        faultOf("P01000P02000P03000P04000P05000F00000", NONE);
        faultOf("P30000P31000P32000P33000P34000F35000F3", 37);
        faultOf(TWELVE.substring(0, 66) + "F0", 67);
        faultOf(TWELVE.substring(0, 71), 71);
    }

    private static void promise5() {
        AHandGoesUp x = new AHandGoesUp();
        due("5 empty text", x.room(), 0);
        Check.tell(x, "P00535F01535");
        due("5 two", x.room(), 2);
        due("5 text stays", x.count(0), 12);
        x.mood(4);
        x.tape(1, 0);
        x.trial(3, true);
        x.seed(99);
        x.ask(3, 9, FRONT, false);
        x.keep(0);
        x.keep(1);
        x.ask(0, 9, FRONT, false);
        x.ask(0, 9, FRONT, true);
        x.write(1, 'X');
        due("5 a fault", x.room(), STATE);
        due("5 class stays", x.count(1), 2);
        due("5 questions stay", x.lesson(0), 3);
        due("5 wrong ones stay", x.lesson(2), 2);
        due("5 daring stays 0", x.about(0, 6), 5);
        due("5 daring stays 1", x.about(1, 6), 0);
        due("5 kept stays", x.again(1), 1);
        x.ask(0, 9, FRONT, false);
        due("5 one wrong", x.lesson(2), 1);
        x.wipe();
        Check.tell(x, "P00535F01537F02538");
        due("5 three", x.room(), 3);
        due("5 no questions", x.lesson(0), 0);
        due("5 none without one", x.lesson(3), 0);
        due("5 none right", x.lesson(1), 0);
        due("5 none wrong", x.lesson(2), 0);
        due("5 nobody taken", x.lesson(4), 3);
        due("5 daring as told", x.about(1, 6), 7);
        due("5 kept is gone 0", x.again(0), STATE);
        due("5 kept is gone 1", x.again(1), STATE);
        due("5 seed", x.seed(1), 0);
        due("5 mood stays", x.mood(5), 4);
        due("5 tapes stay", x.count(2), 1);
        due("5 trials stay", x.count(3), 1);
        due("5 waited stay", x.count(4), 1);
        x.wipe();
        due("5 nobody", x.room(), 0);
        due("5 nobody left", x.about(0, 0), UNKNOWN);
        due("5 twelve", Check.classOf(TWELVE).count(1), 12);
    }

    private static void promise6() {
        AHandGoesUp x = Check.classOf("P24681F35079");
        int[] first = {2, 4, 6, 8, 1, 0, 1, 0};
        int[] second = {3, 5, 0, 7, 9, 1, 9, 0};
        for (int what = 0; what < 8; what++) {
            due("6 about 0 " + what, x.about(0, what), first[what]);
            due("6 about 1 " + what, x.about(1, what), second[what]);
        }
        due("6 pupil -1", x.about(-1, 0), UNKNOWN);
        due("6 pupil 2", x.about(2, 0), UNKNOWN);
        due("6 pupil most", x.about(MOST, 0), UNKNOWN);
        due("6 pupil least", x.about(LEAST, 0), UNKNOWN);
        due("6 what -1", x.about(0, -1), OUTSIDE);
        due("6 what 8", x.about(0, 8), OUTSIDE);
        due("6 UNKNOWN first", x.about(2, 8), UNKNOWN);
        x.ask(0, 9, FRONT, false);
        due("6 dares now", x.about(1, 6), 7);
        due("6 dares as told", x.about(1, 4), 9);
        due("6 taken", x.about(1, 7), 1);
    }

    private static void promise7() {
        AHandGoesUp x = Check.classOf("P00505P01506");
        due("7 at first 5", x.mood(0), 5);
        due("7 was 0", x.mood(9), 0);
        due("7 -1", x.mood(-1), OUTSIDE);
        due("7 10", x.mood(10), OUTSIDE);
        due("7 most", x.mood(MOST), OUTSIDE);
        due("7 was 9 still", x.mood(6), 9);
        due("7 dares 5 in mood 6", x.up(0, 9), 0);
        due("7 dares 6 in mood 6", x.up(1, 9), 5);
    }

    private static void promise8() {
        AHandGoesUp x = Check.classOf("P00735F01396F02990P03004");
        due("8 too soon", x.up(0, 2), 0);
        due("8 just then", x.up(0, 3), 7);
        due("8 later", x.up(0, 9), 7);
        due("8 F at once", x.up(1, 0), 10);
        due("8 F dares not", x.up(2, 9), 0);
        due("8 P dares not", x.up(3, 9), 0);
        x.mood(6);
        due("8 P dares no longer", x.up(0, 9), 0);
        due("8 F dares just so much", x.up(1, 9), 10);
        x.mood(7);
        due("8 F dares no longer", x.up(1, 9), 0);
        due("8 pupil 4", x.up(4, 0), UNKNOWN);
        due("8 pupil -1", x.up(-1, 10), UNKNOWN);
        due("8 w -1", x.up(0, -1), OUTSIDE);
        due("8 w 10", x.up(0, 10), OUTSIDE);
        x.mood(6);
        x.ask(0, 0, FRONT, true);
        due("8 daring fell to 2", x.up(1, 9), 0);
        x.mood(2);
        due("8 as it dares now", x.up(1, 9), 10);
    }

    private static void promise9() {
        AHandGoesUp x = Check.classOf("P00735F01396F02990P03104");
        due("9 at 0", x.mean(0), 10);
        due("9 at 3", x.mean(3), 17);
        x.mood(0);
        due("9 all dare", x.mean(9), 28);
        due("9 -1", x.mean(-1), OUTSIDE);
        due("9 10", x.mean(10), OUTSIDE);
        due("9 nobody", new AHandGoesUp().mean(0), 0);
    }

    private static void promise10() {
        AHandGoesUp x = Check.classOf("P00735F01396F02990P03104");
        due("10 at 0", x.quiet(0), 17);
        due("10 at 3", x.quiet(3), 10);
        x.mood(0);
        due("10 all dare", x.quiet(9), 0);
        due("10 all dare, too soon", x.quiet(2), 7);
        due("10 -1", x.quiet(-1), OUTSIDE);
        due("10 10", x.quiet(10), OUTSIDE);
        due("10 nobody", new AHandGoesUp().quiet(9), 0);
    }

    private static void promise11() {
        AHandGoesUp x = Check.classOf("P00535P01235F02009");
        due("11 none", x.hands(9, 0, true), x.hands(9, 0, false), 0, 1);
        due("11 one", x.hands(9, 1, true), x.hands(9, 1, false), 2, 5);
        due("11 two", x.hands(9, 2, true), x.hands(9, 2, false), 1, 2);
        due("11 three", x.hands(9, 3, true), x.hands(9, 3, false), 1, 10);
        due("11 twelve", x.hands(9, 12, true), x.hands(9, 12, false), 0, 1);
        due("11 too soon", x.hands(2, 1, true), x.hands(2, 1, false), 1, 1);
        due("11 w 10", x.hands(10, 0, true), x.hands(10, 0, false), OUTSIDE, OUTSIDE);
        due("11 w -1", x.hands(-1, 0, true), OUTSIDE);
        due("11 n -1", x.hands(0, -1, true), OUTSIDE);
        due("11 n 13", x.hands(0, 13, false), OUTSIDE);
        // 12 by halves
        AHandGoesUp y = Check.classOf(TWELVE);
        due("11 all of twelve", y.hands(9, 12, true), y.hands(9, 12, false), 1, 4096);
        due("11 six of twelve", y.hands(9, 6, true), y.hands(9, 6, false), 231, 1024);
    }

    private static void promise12() {
        AHandGoesUp x = Check.classOf("P00535F01235P02109");
        x.mood(6);
        // only 2 dares: it is up if it knows; 0 and 1 know silently
        due("12 1 of h 1", x.given(9, 1, 1, true), x.given(9, 1, 1, false), 2, 5);
        due("12 2 of h 1", x.given(9, 1, 2, true), x.given(9, 1, 2, false), 1, 2);
        due("12 0 of h 1", x.given(9, 1, 0, true), x.given(9, 1, 0, false), 0, 1);
        due("12 0 of h 0", x.given(9, 0, 0, true), x.given(9, 0, 0, false), 2, 5);
        due("12 can't be", x.given(9, 2, 0, true), x.given(9, 2, 0, false), STATE, STATE);
        due("12 h 12", x.given(9, 12, 12, true), STATE);
        due("12 n 12", x.given(9, 0, 12, true), x.given(9, 0, 12, false), 0, 1);
        x.mood(5);
        due("12 F up for sure", x.given(9, 0, 0, true), STATE);
        due("12 F and none knows", x.given(9, 1, 0, true), x.given(9, 1, 0, false), 4, 5);
        AHandGoesUp y = Check.classOf("P00105");
        due("12 it hardly can be", y.given(9, 1, 1, true), y.given(9, 1, 1, false), 1, 1);
        due("12 w 10", x.given(10, 0, 0, true), OUTSIDE);
        due("12 h -1", x.given(9, -1, 0, true), OUTSIDE);
        due("12 h 13", x.given(9, 13, 0, true), OUTSIDE);
        due("12 n -1", x.given(9, 0, -1, true), OUTSIDE);
        due("12 OUTSIDE before STATE", x.given(9, 0, 13, true), OUTSIDE);
    }

    private static void promise13() {
        AHandGoesUp x = Check.classOf("P00535F01235P02109");
        x.mood(6);
        due("13 two likeliest", x.likely(9, 1), 2);
        due("13 one likeliest", x.likely(9, 0), 1);
        due("13 of like ones the least", Check.classOf("P00500").likely(9, 0), 0);
        due("13 can't be", x.likely(9, 2), STATE);
        due("13 w -1", x.likely(-1, 0), OUTSIDE);
        due("13 w 10", x.likely(10, 0), OUTSIDE);
        due("13 h -1", x.likely(0, -1), OUTSIDE);
        due("13 h 13", x.likely(0, 13), OUTSIDE);
        due("13 h 12", x.likely(0, 12), STATE);
        // six know by nine tenths and dare not
        AHandGoesUp y = Check.classOf("P00900P01900P02900P03900P04900P05900");
        due("13 all know silently", y.likely(9, 0), 6);
        due("13 it hardly can be", Check.classOf("P00105").likely(9, 1), 1);
        due("13 all of twelve", Check.classOf(TWELVE).likely(9, 12), 12);
        due("13 nobody", new AHandGoesUp().likely(0, 0), 0);
    }

    private static void takenDue(AHandGoesUp x, int pupil, int w, int rule, long above, long below) {
        due("14 taken " + pupil + " at " + w + " by " + rule,
                x.taken(pupil, w, rule, true), x.taken(pupil, w, rule, false), above, below);
    }

    private static void promise14() {
        // in the middle of the front: 2, then 1 (column 3), then 0 (column 0), 3 behind
        AHandGoesUp x = Check.classOf("P00535P03535P02535P12205");
        takenDue(x, 2, 9, FRONT, 1, 2);
        takenDue(x, 1, 9, FRONT, 1, 4);
        takenDue(x, 0, 9, FRONT, 1, 8);
        takenDue(x, 3, 9, FRONT, 1, 40);
        takenDue(x, 3, 0, FRONT, 1, 5);
        takenDue(x, 0, 0, FRONT, 0, 1);
        takenDue(x, 3, 9, QUICK, 1, 5);
        takenDue(x, 0, 9, QUICK, 2, 5);
        takenDue(x, 1, 9, QUICK, 1, 5);
        takenDue(x, 2, 9, QUICK, 1, 10);
        takenDue(x, 3, 0, LOT, 1, 5);
        takenDue(x, 0, 0, LOT, 0, 1);
        takenDue(x, 1, 9, STICKS, 1, 4);
        takenDue(x, 1, 0, STICKS, 1, 4);
        takenDue(x, 0, 9, FEWEST, 1, 2);
        takenDue(x, 3, 9, FEWEST, 1, 40);
        x.ask(1, 9, FRONT, false);
        takenDue(x, 0, 9, FEWEST, 1, 10);
        takenDue(x, 1, 9, FEWEST, 1, 2);
        // 0 for sure, 1 by half: half alone, half by half
        AHandGoesUp y = Check.classOf("F00095P01505");
        takenDue(y, 0, 9, LOT, 3, 4);
        takenDue(y, 1, 9, LOT, 1, 4);
        takenDue(y, 1, 9, QUICK, 1, 2);
        takenDue(y, 0, 9, QUICK, 1, 2);
        // six for sure in two rows: as the first is UP, none behind is TAKEN
        String order = "231405";
        for (int first = 0; first < 6; first++) {
            AHandGoesUp row = Check.classOf("F12009" + rowFrom(order.substring(first)));
            for (int i = 0; i <= 6 - first; i++) {
                takenDue(row, i, 0, FRONT, i == 1 ? 1 : 0, 1);
            }
            due("14 the first is asked", row.ask(0, 0, FRONT, false), 1);
        }
        due("14 pupil -1", y.taken(-1, 9, 0, true), UNKNOWN);
        due("14 pupil 2", y.taken(2, 9, 0, false), UNKNOWN);
        due("14 rule -1", y.taken(0, 9, -1, true), UNKNOWN);
        due("14 rule 5", y.taken(0, 9, 5, true), UNKNOWN);
        due("14 UNKNOWN first", y.taken(0, 10, 5, true), UNKNOWN);
        due("14 w 10", y.taken(0, 10, 0, true), OUTSIDE);
        due("14 w -1", y.taken(0, -1, 4, false), OUTSIDE);
    }

    /** One that surely is UP in each of these columns of row 0. */
    private static String rowFrom(String columns) {
        return columns.replaceAll("(.)", "F0$1009");
    }

    private static void rightDue(AHandGoesUp x, int w, int rule, long above, long below) {
        due("15 right at " + w + " by " + rule, x.right(w, rule, true), x.right(w, rule, false), above, below);
    }

    private static void promise15() {
        AHandGoesUp x = Check.classOf("F00345P01505");
        rightDue(x, 9, FRONT, 13, 20);
        rightDue(x, 3, FRONT, 1, 2);
        rightDue(x, 9, QUICK, 13, 20);
        rightDue(x, 9, LOT, 19, 40);
        rightDue(x, 3, LOT, 1, 4);
        rightDue(x, 9, STICKS, 2, 5);
        rightDue(x, 3, STICKS, 1, 4);
        rightDue(x, 9, FEWEST, 3, 10);
        x.mood(9);
        rightDue(x, 9, FRONT, 0, 1);
        rightDue(x, 9, STICKS, 2, 5);
        rightDue(new AHandGoesUp(), 9, LOT, 0, 1);
        rightDue(new AHandGoesUp(), 9, STICKS, 0, 1);
        due("15 rule -1", x.right(9, -1, true), UNKNOWN);
        due("15 rule 5", x.right(10, 5, true), UNKNOWN);
        due("15 w -1", x.right(-1, 0, true), OUTSIDE);
        due("15 w 10", x.right(10, 0, false), OUTSIDE);
    }

    private static void promise16() {
        AHandGoesUp x = Check.classOf("P00535P03535P02535P12205");
        due("16 front", x.mostly(9, FRONT), 2);
        due("16 quick", x.mostly(9, QUICK), 0);
        due("16 lot, of like ones the least", x.mostly(9, LOT), 0);
        due("16 sticks", x.mostly(0, STICKS), 0);
        due("16 only 3 is up", x.mostly(0, FEWEST), 3);
        x.mood(6);
        due("16 hardly", Check.classOf("P00105").mostly(9, FRONT), 0);
        due("16 none can be", x.mostly(9, LOT), NONE);
        due("16 sticks all the same", x.mostly(9, STICKS), 0);
        due("16 nobody to draw", new AHandGoesUp().mostly(9, STICKS), NONE);
        due("16 rule 5", x.mostly(10, 5), UNKNOWN);
        due("16 rule -1", x.mostly(0, -1), UNKNOWN);
        due("16 w 10", x.mostly(10, 0), OUTSIDE);
        due("16 w -1", x.mostly(-1, 0), OUTSIDE);
    }

    private static void promise17() {
        // nobody at 0, 5 tenths from 1, 10 tenths from 4
        AHandGoesUp x = Check.classOf("P00515P01545");
        due("17 waiting costs nothing", x.await(1, 0), 4);
        due("17 nothing is worth", x.await(0, 0), 0);
        due("17 dear", x.await(1, 1), 0);
        due("17 just like", x.await(2, 1), 0);
        due("17 just more", x.await(3, 1), 1);
        due("17 like again", x.await(6, 1), 1);
        due("17 more again", x.await(7, 1), 4);
        due("17 to the last second", Check.classOf("P00595").await(1, 0), 9);
        due("17 just worth it", x.await(21, 10), 1);
        // 10 tenths at once, 5 more from 1
        AHandGoesUp y = Check.classOf("F00595P01515");
        due("17 some at once", y.await(99, 50), 0);
        due("17 some more", y.await(99, 49), 1);
        due("17 greatest", x.await(99, 99), 0);
        due("17 v -1", x.await(-1, 0), OUTSIDE);
        due("17 v 100", x.await(100, 0), OUTSIDE);
        due("17 c -1", x.await(0, -1), OUTSIDE);
        due("17 c 100", x.await(0, 100), OUTSIDE);
        due("17 nobody", new AHandGoesUp().await(99, 0), 0);
    }

    private static void promise18() {
        AHandGoesUp x = Check.classOf("P00535F01335P02534");
        due("18 all at 9", x.raised(7, 9), 3);
        due("18 too soon", x.raised(7, 2), 2);
        due("18 nobody knows", x.raised(0, 9), 2);
        x.mood(4);
        due("18 mood 4", x.raised(5, 9), 7);
        due("18 knows -1", x.raised(-1, 9), OUTSIDE);
        due("18 knows 8", x.raised(8, 9), OUTSIDE);
        due("18 w 10", x.raised(0, 10), OUTSIDE);
        due("18 w -1", x.raised(0, -1), OUTSIDE);
        due("18 twelve", Check.classOf(TWELVE).raised(4095, 9), 4095);
        due("18 4096", Check.classOf(TWELVE).raised(4096, 9), OUTSIDE);
    }

    private static void promise19() {
        AHandGoesUp x = Check.classOf("P00535F01335P02534");
        due("19 one dares not", x.silent(7, 9), 4);
        due("19 and one thinks", x.silent(7, 2), 5);
        due("19 who does not know", x.silent(1, 9), 0);
        x.mood(9);
        due("19 an F too", x.silent(6, 9), 6);
        due("19 knows -1", x.silent(-1, 9), OUTSIDE);
        due("19 knows 8", x.silent(8, 9), OUTSIDE);
        due("19 w -1", x.silent(0, -1), OUTSIDE);
        due("19 w 10", x.silent(0, 10), OUTSIDE);
    }

    private static void promise20() {
        AHandGoesUp x = new AHandGoesUp();
        due("20 first", x.seed(Long.MIN_VALUE), 0);
        due("20 least", x.seed(-1), Long.MIN_VALUE);
        due("20 -1", x.seed(0), -1);
        AHandGoesUp y = Check.classOf("P00535P01535");
        y.ask(0, 0, STICKS, false);
        due("20 after a draw", y.seed(1), 1442695040888963407L);
        y.ask(0, 0, STICKS, false);
        due("20 after another", y.seed(0), 6364136223846793005L + 1442695040888963407L);
    }

    private static void promise21() {
        AHandGoesUp x = Check.classOf("P00537P03547P02557F12228");
        due("21 front", x.ask(7, 9, FRONT, false), 2);
        due("21 dares one more", x.about(2, 6), 8);
        due("21 quick", x.ask(7, 9, QUICK, false), 3);
        due("21 dares two less", x.about(3, 6), 6);
        due("21 laughed at", x.ask(7, 0, QUICK, true), 3);
        due("21 four less", x.about(3, 6), 2);
        due("21 too soon for all", x.ask(7, 0, FRONT, false), NONE);
        due("21 fewest", x.ask(7, 9, FEWEST, false), 0);
        due("21 fewest next", x.ask(7, 9, FEWEST, false), 1);
        due("21 fewest again from the least", x.ask(7, 9, FEWEST, false), 0);
        AHandGoesUp alone = Check.classOf("P00535");
        due("21 one alone", alone.ask(1, 9, LOT, false), 0);
        due("21 is drawn too", alone.seed(0), 1442695040888963407L);
        due("21 not drawn for nobody", x.ask(0, 9, LOT, false), NONE);
        due("21 nothing drawn", x.seed(0), 0);
        x.mood(0);
        due("21 down to 0", x.ask(0, 9, FRONT, true), 3);
        due("21 not below 0", x.about(3, 6), 0);
        due("21 an F that knows", x.ask(8, 2, FRONT, true), 3);
        due("21 is right", x.about(3, 6), 1);
        due("21 an F that knows too late", x.ask(8, 1, FRONT, false), 3);
        due("21 is not right", x.about(3, 6), 0);
        AHandGoesUp y = Check.classOf("P00509");
        y.ask(1, 9, FRONT, true);
        due("21 not above 9", y.about(0, 6), 9);
        due("21 rule 5", y.ask(0, 9, 5, false), UNKNOWN);
        due("21 rule -1", y.ask(2, 10, -1, false), UNKNOWN);
        due("21 knows 2", y.ask(2, 9, 0, false), OUTSIDE);
        due("21 knows -1", y.ask(-1, 9, 0, false), OUTSIDE);
        due("21 w 10", y.ask(0, 10, 0, false), OUTSIDE);
        due("21 w -1", y.ask(0, -1, 3, false), OUTSIDE);
        due("21 refused is no question", y.lesson(0), 1);
        due("21 sticks of nobody", new AHandGoesUp().ask(0, 0, STICKS, false), NONE);
    }

    private static void promise21Draws() {
        AHandGoesUp x = Check.classOf("P00537P03547P02557F12228");
        // of 0 comes 1442695040888963407: its upper 31 bits are 167951807
        due("21 sticks", x.ask(0, 9, STICKS, false), 167951807 % 4);
        due("21 sticks: not right", x.about(3, 6), 6);
        x.seed(0);
        // 0, 2 and 3 are up: 167951807 leaves 2 of 3, the third of these
        due("21 lot", x.ask(5, 9, LOT, false), 3);
        due("21 lot drew once", x.seed(0), 1442695040888963407L);
        x.seed(-9);
        // of -9 comes a negative number: its upper 31 bits, without sign, are 2089939699
        due("21 sticks of -9", x.ask(0, 9, STICKS, false), 2089939699 % 4);
        x.seed(0);
        x.mood(9);
        due("21 sticks take one that is not up", x.ask(8, 9, STICKS, true), 3);
        due("21 and it is right", x.lesson(1), 1);
    }

    private static void promise22() {
        AHandGoesUp x = Check.classOf("P00535P01535P02535");
        due("22 none asked", x.lesson(0), 0);
        due("22 none ever taken", x.lesson(4), 3);
        due("22 no times", x.lesson(5), 0);
        x.ask(1, 9, FRONT, false);
        x.ask(3, 9, QUICK, false);
        x.ask(0, 9, FRONT, false);
        x.ask(0, 9, LOT, false);
        x.ask(0, 9, STICKS, false);
        due("22 asked", x.lesson(0), 5);
        due("22 right", x.lesson(1), 2);
        due("22 not right", x.lesson(2), 1);
        due("22 nobody taken", x.lesson(3), 2);
        due("22 never taken", x.lesson(4), 1);
        due("22 most times", x.lesson(5), 2);
        // by STICKS it was 2, who dares less since
        x.mood(0);
        for (int i = 0; i < 3; i++) {
            x.ask(4, 9, QUICK, false);
        }
        due("22 most times of another", x.lesson(5), 4);
        due("22 -1", x.lesson(-1), OUTSIDE);
        due("22 6", x.lesson(6), OUTSIDE);
        due("22 nobody in class", new AHandGoesUp().lesson(4), 0);
        due("22 nobody's most", new AHandGoesUp().lesson(5), 0);
    }

    private static void promise23() {
        AHandGoesUp x = new AHandGoesUp();
        due("23 no hands", x.tape(0, 0), OUTSIDE);
        due("23 hands -1", x.tape(-1, 0), OUTSIDE);
        due("23 hands 4096", x.tape(4096, 0), OUTSIDE);
        due("23 4097", x.tape(4097, 0), OUTSIDE);
        due("23 not of these", x.tape(5, 1), OUTSIDE);
        due("23 taken -1", x.tape(4095, -1), OUTSIDE);
        due("23 taken 12", x.tape(4095, 12), OUTSIDE);
        due("23 taken 32", x.tape(1, 32), OUTSIDE);
        due("23 none came", x.count(2), 0);
        for (int i = 0; i < 12; i++) {
            due("23 tape " + i, x.tape(4095, i), i + 1);
        }
        due("23 full", x.tape(1, 0), FULL);
        due("23 OUTSIDE first", x.tape(1, 1), OUTSIDE);
        due("23 twelve", x.count(2), 12);
    }

    private static void promise24() {
        AHandGoesUp x = new AHandGoesUp();
        due("24 none", x.untape(), 0);
        x.tape(3, 1);
        x.tape(3, 0);
        due("24 two", x.untape(), 2);
        due("24 gone", x.count(2), 0);
        due("24 none came", x.came(4095), 0);
        due("24 a new one", x.tape(8, 3), 1);
    }

    private static void promise25() {
        AHandGoesUp x = new AHandGoesUp();
        due("25 none", x.came(4095), 0);
        x.tape(7, 2);
        x.tape(2049, 11);
        x.tape(4, 2);
        due("25 of nobody", x.came(0), 0);
        due("25 of 2", x.came(4), 2);
        due("25 of 11 and 0", x.came(2049), 1);
        due("25 of all", x.came(4095), 3);
        due("25 4096", x.came(4096), OUTSIDE);
        due("25 -1", x.came(-1), OUTSIDE);
    }

    private static void promise26() {
        AHandGoesUp x = new AHandGoesUp();
        due("26 none", x.due(4095, true), x.due(4095, false), 0, 1);
        x.tape(7, 2);
        x.tape(3, 1);
        due("26 of 0", x.due(1, true), x.due(1, false), 5, 6);
        due("26 of 2", x.due(4, true), x.due(4, false), 1, 3);
        due("26 of all", x.due(4095, true), x.due(4095, false), 2, 1);
        due("26 of nobody", x.due(0, true), x.due(0, false), 0, 1);
        for (int hands = 3; hands < 2048; hands = hands * 2 + 1) {
            x.tape(hands, 0);
        }
        due("26 many", x.due(1, true), x.due(1, false), 5 * 27720 / 6 + sharesTo11(), 27720);
        due("26 4096", x.due(4096, true), OUTSIDE);
        due("26 -1", x.due(-1, false), OUTSIDE);
    }

    /** A half, a third and so on to an eleventh, of 27720. */
    private static long sharesTo11() {
        long sum = 0;
        for (int i = 2; i <= 11; i++) {
            sum += 27720 / i;
        }
        return sum;
    }

    private static void promise27() {
        AHandGoesUp x = new AHandGoesUp();
        due("27 none", x.luck(4095, true), x.luck(4095, false), 1, 1);
        x.tape(3, 0);
        x.tape(3, 0);
        x.tape(7, 1);
        due("27 of 0", x.luck(1, true), x.luck(1, false), 5, 12);
        due("27 of 1", x.luck(2, true), x.luck(2, false), 5, 6);
        due("27 of 2", x.luck(4, true), x.luck(4, false), 1, 1);
        due("27 of 0 and 2", x.luck(5, true), x.luck(5, false), 7, 12);
        due("27 of nobody", x.luck(0, true), x.luck(0, false), 1, 1);
        due("27 4096", x.luck(4096, true), OUTSIDE);
        due("27 -1", x.luck(-1, false), OUTSIDE);
        AHandGoesUp y = new AHandGoesUp();
        for (int i = 0; i < 12; i++) {
            y.tape(4095, 5);
        }
        due("27 twelve of twelve", y.luck(32, true), y.luck(32, false), 1, 8916100448256L);
    }

    private static void promise28() {
        AHandGoesUp x = new AHandGoesUp();
        due("28 one of two", x.boards(4, 2, 2, 1, true), x.boards(4, 2, 2, 1, false), 2, 3);
        due("28 all of these", x.boards(4, 2, 2, 2, true), x.boards(4, 2, 2, 2, false), 1, 6);
        due("28 all seen", x.boards(4, 2, 4, 2, true), x.boards(4, 2, 4, 2, false), 1, 1);
        due("28 can't be", x.boards(4, 2, 4, 1, true), x.boards(4, 2, 4, 1, false), 0, 1);
        due("28 too few right", x.boards(4, 1, 3, 2, true), x.boards(4, 1, 3, 2, false), 0, 1);
        due("28 half of thirty", x.boards(30, 15, 15, 15, true), x.boards(30, 15, 15, 15, false), 1, 155117520);
        due("28 smallest", x.boards(1, 0, 1, 0, true), x.boards(1, 0, 1, 0, false), 1, 1);
        due("28 n 0", x.boards(0, 0, 0, 0, true), OUTSIDE);
        due("28 n 31", x.boards(31, 1, 1, 1, true), OUTSIDE);
        due("28 m -1", x.boards(4, -1, 2, 1, true), OUTSIDE);
        due("28 m 5", x.boards(4, 5, 2, 1, true), OUTSIDE);
        due("28 s 0", x.boards(4, 2, 0, 0, true), OUTSIDE);
        due("28 s 5", x.boards(4, 2, 5, 1, true), OUTSIDE);
        due("28 r -1", x.boards(4, 2, 2, -1, true), OUTSIDE);
        due("28 r 3", x.boards(4, 2, 2, 3, false), OUTSIDE);
        due("28 least", x.boards(LEAST, LEAST, LEAST, LEAST, true), OUTSIDE);
    }

    private static void promise29() {
        AHandGoesUp x = new AHandGoesUp();
        // 1 of 20 is just a twentieth
        due("29 from, a twentieth", x.span(20, 1, 1, false), 1);
        due("29 to", x.span(20, 1, 1, true), 20);
        due("29 none right from", x.span(20, 1, 0, false), 0);
        due("29 none right to", x.span(20, 1, 0, true), 19);
        due("29 less than a twentieth", x.span(21, 1, 1, false), 2);
        due("29 all seen from", x.span(9, 9, 4, false), 4);
        due("29 all seen to", x.span(9, 9, 4, true), 4);
        due("29 one board from", x.span(1, 1, 1, false), 1);
        due("29 one board to", x.span(1, 1, 0, true), 0);
        due("29 n 0", x.span(0, 0, 0, true), OUTSIDE);
        due("29 n 31", x.span(31, 1, 1, true), OUTSIDE);
        due("29 s 0", x.span(4, 0, 0, true), OUTSIDE);
        due("29 s 5", x.span(4, 5, 0, true), OUTSIDE);
        due("29 r -1", x.span(4, 4, -1, true), OUTSIDE);
        due("29 r 5", x.span(4, 4, 5, false), OUTSIDE);
    }

    private static void promise30() {
        AHandGoesUp x = new AHandGoesUp();
        due("30 -1", x.trial(-1, true), OUTSIDE);
        due("30 100", x.trial(100, true), OUTSIDE);
        for (int i = 0; i < 10; i++) {
            due("30 trial " + i, x.trial(i == 0 ? 99 : 0, i % 3 == 0), i + 1);
        }
        due("30 full", x.trial(0, true), FULL);
        due("30 OUTSIDE first", x.trial(100, true), OUTSIDE);
        due("30 ten", x.count(3), 10);
        due("30 waited", x.count(4), 4);
    }

    private static void promise31() {
        AHandGoesUp x = new AHandGoesUp();
        due("31 none", x.untrial(), 0);
        x.trial(1, true);
        x.trial(1, false);
        due("31 two", x.untrial(), 2);
        due("31 gone", x.count(3), 0);
        due("31 none waited", x.count(4), 0);
        due("31 anew", x.trial(3, false), 1);
        due("31 still none waited", x.count(4), 0);
        due("31 chance", x.chance(false), 1);
    }

    private static void promise32() {
        AHandGoesUp x = new AHandGoesUp();
        due("32 none", x.chance(true), x.chance(false), 1, 1);
        x.trial(5, true);
        due("32 all waited", x.chance(true), x.chance(false), 1, 1);
        x.trial(3, false);
        due("32 the most of two", x.chance(true), x.chance(false), 1, 2);
        x.trial(5, false);
        due("32 as many", x.chance(true), x.chance(false), 2, 3);
        x.trial(2, true);
        // 7 of 8, 8, 10, 7, 5, 7
        due("32 of six pairs", x.chance(true), x.chance(false), 5, 6);
        AHandGoesUp y = new AHandGoesUp();
        for (int i = 0; i < 10; i++) {
            y.trial(i * 10, i > 4);
        }
        due("32 five of ten", y.chance(true), y.chance(false), 1, 252);
    }

    private static void promise33() {
        AHandGoesUp x = new AHandGoesUp();
        due("33 of 1", x.until(1, true), x.until(1, false), 1, 1);
        due("33 of 2", x.until(2, true), x.until(2, false), 3, 1);
        due("33 of 3", x.until(3, true), x.until(3, false), 11, 2);
        due("33 of 4", x.until(4, true), x.until(4, false), 25, 3);
        due("33 of 11", x.until(11, true), x.until(11, false), 83711, 2520);
        due("33 of 12", x.until(12, true), x.until(12, false), 86021, 2310);
        due("33 of 0", x.until(0, true), OUTSIDE);
        due("33 of 13", x.until(13, false), OUTSIDE);
        due("33 of least", x.until(LEAST, false), OUTSIDE);
    }

    private static void promise34() {
        AHandGoesUp x = Check.classOf("P00535P01535");
        due("34 nothing yet", x.keep(0), 0);
        x.ask(1, 9, FRONT, false);
        due("34 one", x.keep(1), 1);
        due("34 -1", x.keep(-1), UNKNOWN);
        due("34 2", x.keep(2), UNKNOWN);
        x.ask(1, 9, FRONT, false);
        due("34 slot 0 has its own", x.again(0), 0);
        due("34 slot 1 has its own", x.again(1), 1);
        x.ask(1, 9, FRONT, false);
        due("34 kept anew", x.keep(0), 2);
        x.again(1);
        due("34 the last kept", x.again(0), 2);
    }

    private static void promise35() {
        AHandGoesUp x = Check.classOf("P00535P01537P02534");
        due("35 nothing kept", x.again(0), STATE);
        due("35 -1", x.again(-1), UNKNOWN);
        due("35 2", x.again(2), UNKNOWN);
        x.ask(1, 9, FRONT, false);
        x.ask(0, 9, STICKS, true);
        x.ask(0, 9, FRONT, true);
        long seed = x.seed(17);
        x.keep(0);
        int[][] as = stateOf(x);
        due("35 the other is not kept", x.again(1), STATE);
        due("35 the first once more", x.ask(1, 9, FRONT, true), 0);
        x.ask(7, 9, STICKS, true);
        x.ask(7, 9, STICKS, true);
        x.ask(0, 9, STICKS, true);
        x.mood(9);
        x.ask(7, 9, LOT, true);
        due("35 three questions", x.again(0), 3);
        int[][] is = stateOf(x);
        for (int i = 0; i < as.length; i++) {
            for (int j = 0; j < as[i].length; j++) {
                due("35 state " + i + " " + j, is[i][j], as[i][j]);
            }
        }
        due("35 seed as kept", x.seed(0), 17);
        due("35 seed before", seed, 1442695040888963407L);
        due("35 mood is not kept", x.mood(5), 9);
        x.ask(7, 9, STICKS, true);
        due("35 once more", x.again(0), 3);
        due("35 seed once more", x.seed(0), 17);
    }

    /** How all dare, how often they were TAKEN, and what came of the QUESTIONS. */
    private static int[][] stateOf(AHandGoesUp x) {
        int[][] state = new int[x.count(1) + 1][];
        for (int pupil = 0; pupil < x.count(1); pupil++) {
            state[pupil] = new int[] {x.about(pupil, 6), x.about(pupil, 7)};
        }
        state[x.count(1)] = new int[] {x.lesson(0), x.lesson(1), x.lesson(2), x.lesson(3), x.lesson(4), x.lesson(5)};
        return state;
    }

    private static void promise36() {
        AHandGoesUp x = Check.classOf("P00535P01535");
        x.write(1, 'P');
        x.tape(1, 0);
        x.tape(1, 0);
        x.tape(1, 0);
        x.trial(1, true);
        x.trial(1, false);
        x.trial(1, true);
        x.trial(1, true);
        due("36 bytes", x.count(0), 13);
        due("36 pupils", x.count(1), 2);
        due("36 tapes", x.count(2), 3);
        due("36 trials", x.count(3), 4);
        due("36 waited", x.count(4), 3);
        due("36 -1", x.count(-1), OUTSIDE);
        due("36 5", x.count(5), OUTSIDE);
        due("36 most", x.count(MOST), OUTSIDE);
    }
}
