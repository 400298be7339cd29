import java.util.ArrayList;
import java.util.List;

/** THE TEXT, FAULT, THE CLASS, MOOD: promises 1 to 7, boundary case by boundary case. */
public final class ClassBoundsTest {
    private static final int UNKNOWN = -1, OUTSIDE = -2, STATE = -3, FULL = -4, NONE = -9;
    private static final String TWELVE = Bounds.TWELVE;
    private static final Bounds bounds = new Bounds();

    private static void due(String call, long got, long want) {
        bounds.due(call, got, want);
    }

    public static void main(String[] args) {
        newObjectIsEmpty();
        newObjectHasNoChances();
        newObjectHasNoLessons();
        newObjectHasNothingBesides();
        objectsStandApart();
        writeTakesOneToEight();
        writeTakesTheLowestBytes();
        textHoldsSeventyTwo();
        nothingComesOfWhatIsTooLong();
        writeRefusesInOrder();
        wipeOfNothingAndOfAll();
        wipedBytesAreGone();
        faultOfEachByte();
        faultOfTwoInOnePlace();
        faultOfFullRows();
        faultOfLength();
        firstFaultCounts();
        roomOfNoneToTwelve();
        roomRefusesFaults();
        roomBeginsAnew();
        roomLeavesTheRest();
        roomOfFewer();
        aboutAtItsEnds();
        moodAtItsEnds();
        bounds.end();
    }

    // ---- 1: a new object

    private static void newObjectIsEmpty() {
        AHandGoesUp x = new AHandGoesUp();
        for (int what = 0; what < 5; what++) {
            due("1 count " + what, x.count(what), 0);
        }
        due("1 fault", x.fault(), NONE);
        due("1 mood", x.mood(5), 5);
        due("1 room", x.room(), 0);
        due("1 wipe", x.wipe(), 0);
        for (int what = 0; what < 8; what++) {
            due("1 about " + what, x.about(0, what), UNKNOWN);
        }
    }

    private static void newObjectHasNoChances() {
        AHandGoesUp x = new AHandGoesUp();
        for (int w = 0; w < 10; w += 9) {
            int at = w;
            due("1 up", x.up(0, w), UNKNOWN);
            due("1 mean", x.mean(w), 0);
            due("1 quiet", x.quiet(w), 0);
            bounds.due("1 none is UP", x, (y, upper) -> y.hands(at, 0, upper), 1, 1);
            bounds.due("1 none is", x, (y, upper) -> y.hands(at, 1, upper), 0, 1);
            bounds.due("1 none are", x, (y, upper) -> y.hands(at, 12, upper), 0, 1);
            bounds.due("1 none knows", x, (y, upper) -> y.given(at, 0, 0, upper), 1, 1);
            bounds.due("1 one knows", x, (y, upper) -> y.given(at, 0, 1, upper), 0, 1);
            bounds.due("1 given one", x, (y, upper) -> y.given(at, 1, 1, upper), STATE, STATE);
            due("1 likely none", x.likely(w, 0), 0);
            due("1 likely of one", x.likely(w, 1), STATE);
            for (int rule = 0; rule < 5; rule++) {
                int by = rule;
                bounds.due("1 taken", x, (y, upper) -> y.taken(0, at, by, upper), UNKNOWN, UNKNOWN);
                bounds.due("1 right", x, (y, upper) -> y.right(at, by, upper), 0, 1);
                due("1 mostly", x.mostly(w, rule), NONE);
            }
        }
        for (int v = 0; v < 100; v += 99) {
            due("1 await", x.await(v, 0), 0);
            due("1 await dearly", x.await(v, 99), 0);
        }
    }

    private static void newObjectHasNoLessons() {
        AHandGoesUp x = new AHandGoesUp();
        due("1 raised", x.raised(0, 9), 0);
        due("1 raised by one", x.raised(1, 9), OUTSIDE);
        due("1 silent", x.silent(0, 9), 0);
        due("1 silent one", x.silent(1, 9), OUTSIDE);
        for (int what = 0; what < 6; what++) {
            due("1 lesson " + what, x.lesson(what), 0);
        }
        due("1 again 0", x.again(0), STATE);
        due("1 again 1", x.again(1), STATE);
        for (int rule = 0; rule < 5; rule++) {
            due("1 ask by " + rule, x.ask(0, 9, rule, true), NONE);
        }
        due("1 nothing drawn", x.seed(0), 0);
        due("1 five asked", x.keep(0), 5);
    }

    private static void newObjectHasNothingBesides() {
        AHandGoesUp x = new AHandGoesUp();
        due("1 came", x.came(4095), 0);
        bounds.due("1 due", x, (y, upper) -> y.due(4095, upper), 0, 1);
        bounds.due("1 luck", x, (y, upper) -> y.luck(4095, upper), 1, 1);
        bounds.due("1 chance", x, AHandGoesUp::chance, 1, 1);
        due("1 untape", x.untape(), 0);
        due("1 untrial", x.untrial(), 0);
    }

    private static void objectsStandApart() {
        Bounds.full();
        List<Long> seen = Bounds.all(new AHandGoesUp());
        AHandGoesUp x = new AHandGoesUp();
        AHandGoesUp y = Bounds.lived();
        due("1 another object's pupils", y.count(1), 3);
        due("1 stay its own", Bounds.all(x).equals(seen) ? 1 : 0, 1);
    }

    // ---- 2: write

    private static void writeTakesOneToEight() {
        bounds.takes("2 write n", 1, 8, OUTSIDE, AHandGoesUp::new, (x, n) -> x.write(n, 'P'));
        bounds.takes("2 write n, lived", 1, 8, OUTSIDE, Bounds::lived, (x, n) -> x.write(n, -1));
        for (int n = 1; n <= 8; n++) {
            AHandGoesUp x = new AHandGoesUp();
            due("2 first " + n, x.write(n, Long.MIN_VALUE), n);
            due("2 next " + n, x.write(n, Long.MAX_VALUE), 2 * n);
            due("2 bytes of " + n, x.count(0), 2 * n);
        }
    }

    /** Whatever stands above the lowest bytes does not come. */
    private static void writeTakesTheLowestBytes() {
        String signs = "P01234F10987P23456F32109";
        for (int n = 1; n <= 8; n++) {
            for (long above : new long[] {0, -1, Long.MIN_VALUE, 0x5050505050505050L}) {
                AHandGoesUp x = new AHandGoesUp();
                for (int from = 0; from < signs.length(); from += n) {
                    int some = Math.min(n, signs.length() - from);
                    long v = above;
                    for (int i = 0; i < some; i++) {
                        v = v << 8 | signs.charAt(from + i);
                    }
                    x.write(some, v);
                }
                due("2 fault of " + n, x.fault(), NONE);
                due("2 room of " + n, x.room(), 4);
                due("2 told again by " + n, told(x).equals(signs) ? 1 : 0, 1);
            }
        }
        // a byte of 128 or more makes v less than 0, and is no letter for all its lower bits
        AHandGoesUp y = new AHandGoesUp();
        y.write(8, 'P' + 128L << 56);
        due("2 byte 208", y.fault(), 0);
    }

    /** THE CLASS as the text that would tell it so. */
    private static String told(AHandGoesUp x) {
        StringBuilder signs = new StringBuilder();
        for (int pupil = 0; pupil < x.count(1); pupil++) {
            signs.append(x.about(pupil, 5) == 1 ? 'F' : 'P');
            for (int what = 0; what < 5; what++) {
                signs.append(x.about(pupil, what));
            }
        }
        return signs.toString();
    }

    private static AHandGoesUp withBytes(int bytes) {
        AHandGoesUp x = new AHandGoesUp();
        Check.tell(x, TWELVE.substring(0, bytes));
        return x;
    }

    private static void textHoldsSeventyTwo() {
        for (int bytes = 60; bytes <= 72; bytes++) {
            for (int n = 1; n <= 8; n++) {
                AHandGoesUp x = withBytes(bytes);
                boolean fits = bytes + n <= 72;
                due("2 " + n + " behind " + bytes, x.write(n, 0), fits ? bytes + n : FULL);
                due("2 then bytes", x.count(0), fits ? bytes + n : bytes);
            }
        }
        for (int n = 1; n <= 8; n++) {
            int bytes = n;
            bounds.refuses("2 full, " + n, FULL, Bounds::full, x -> x.write(bytes, -1));
        }
    }

    private static void nothingComesOfWhatIsTooLong() {
        AHandGoesUp x = withBytes(66);
        due("2 eight behind 66", x.write(8, 0), FULL);
        due("2 seven behind 66", x.write(7, -1), FULL);
        due("2 not even some of it", x.count(0), 66);
        Check.tell(x, TWELVE.substring(66));
        due("2 all of it is right", x.fault(), NONE);
        due("2 twelve", x.room(), 12);
        due("2 the last as told", told(x).equals(TWELVE) ? 1 : 0, 1);
        due("2 one more", x.write(1, 'P'), FULL);
        due("2 still right", x.fault(), NONE);
    }

    private static void writeRefusesInOrder() {
        for (int n : Bounds.beyond(1, 8)) {
            bounds.refuses("2 OUTSIDE before FULL, " + n, OUTSIDE, Bounds::full, x -> x.write(n, 0));
        }
    }

    // ---- 3: wipe

    private static void wipeOfNothingAndOfAll() {
        for (int bytes : new int[] {0, 1, 6, 71, 72}) {
            AHandGoesUp x = withBytes(bytes);
            due("3 wipe " + bytes, x.wipe(), bytes);
            due("3 nothing left", x.count(0), 0);
            due("3 wipe once more", x.wipe(), 0);
            due("3 no fault", x.fault(), NONE);
            due("3 room of nobody", x.room(), 0);
        }
        AHandGoesUp full = Bounds.full();
        due("3 wipe 72", full.wipe(), 72);
        due("3 the class stays", full.count(1), 12);
        due("3 the lessons stay", full.lesson(0), 3);
        for (int part = 0; part < 9; part++) {
            due("3 room for 72 again", full.write(8, 0), 8 * part + 8);
        }
        due("3 and no more", full.write(1, 0), FULL);
    }

    private static void wipedBytesAreGone() {
        AHandGoesUp x = withBytes(72);
        x.wipe();
        x.write(1, 'F');
        due("3 only the letter", x.fault(), 1);
        Check.tell(x, "35000");
        due("3 one pupil", x.room(), 1);
        due("3 the new one", told(x).equals("F35000") ? 1 : 0, 1);
    }

    // ---- 4: fault

    private static int faultOf(String signs) {
        AHandGoesUp x = new AHandGoesUp();
        Check.tell(x, signs);
        int fault = x.fault();
        due("4 the text stays", x.count(0), signs.length());
        due("4 told the same again", x.fault(), fault);
        return fault;
    }

    /** Each of 256 bytes at each of six places, of the first, of a later and of the last PUPIL. */
    private static void faultOfEachByte() {
        String[] least = {"P", "0", "0", "0", "0", "0"};
        String[] most = {"P", "3", "5", "9", "9", "9"};
        String eleven = "P00535P01535P02535P03535P04535F10535F11535F12535F13535F14535P30000";
        for (String before : new String[] {"", "F11999", eleven}) {
            for (int place = 0; place < 6; place++) {
                for (int sign = 0; sign < 256; sign++) {
                    boolean fits = sign >= least[place].charAt(0) && sign <= most[place].charAt(0)
                            || place == 0 && sign == 'F';
                    int at = before.length() + place;
                    int want = !fits ? at : place == 5 ? NONE : at + 1;
                    String signs = before + "P25000".substring(0, place) + (char) sign;
                    due("4 fault of byte " + sign + " at " + at, faultOf(signs), want);
                }
            }
        }
    }

    private static String place(int place) {
        return "" + place / 6 + place % 6;
    }

    private static void faultOfTwoInOnePlace() {
        for (int one = 0; one < 24; one++) {
            for (int other = 0; other < 24; other++) {
                String signs = "P" + place(one) + "000F" + place(other);
                due("4 " + signs, faultOf(signs), one == other ? 8 : 9);
                due("4 whole " + signs, faultOf(signs + "999"), one == other ? 8 : NONE);
            }
            // not only of the one ahead
            String third = "F" + place(one) + "999P" + place((one + 1) % 24) + "000F" + place(one) + "999";
            due("4 " + third, faultOf(third), 14);
        }
        String twelfth = TWELVE.substring(0, 66) + "P00000";
        due("4 the twelfth where the first sits", faultOf(twelfth), 67);
        String spread = "P00535P01535P02535P03535P04535F10535F11535F12535F13535F14535P30000";
        due("4 the twelfth likewise, no row full", faultOf(spread + "P00000"), 68);
    }

    /** In a row where all six places are taken none can sit, whatever its column: the row's figure is the FAULT. */
    private static void faultOfFullRows() {
        for (int row = 0; row < 4; row++) {
            StringBuilder five = new StringBuilder();
            for (int column : new int[] {3, 0, 5, 1, 4}) {
                five.append('P').append(row).append(column).append("000");
            }
            due("4 five in row " + row, faultOf(five + "P" + row), 32);
            due("4 the sixth", faultOf(five + "P" + row + "2"), 33);
            due("4 not where the fifth sits", faultOf(five + "P" + row + "4"), 32);
            String six = five + "F" + row + "2999";
            due("4 six in row " + row, faultOf(six), NONE);
            for (int next = 0; next < 4; next++) {
                due("4 then row " + next, faultOf(six + "F" + next), next == row ? 37 : 38);
                due("4 then row " + next + " wholly", faultOf(six + "F" + next + "0000"), next == row ? 37 : NONE);
            }
            String others = "P" + (row + 1) % 4 + "0000P" + (row + 2) % 4 + "5000";
            due("4 six and two", faultOf(six + others + "P" + row), 49);
            due("4 two and five", faultOf(others + five + "P" + row + "2000"), NONE);
        }
        // five of six, whichever is missing
        for (int free = 0; free < 6; free++) {
            String others = "012345".replace("" + free, "").replaceAll("(.)", "P2$1000");
            due("4 only " + free + " is free", faultOf(others + "F2"), 32);
            for (int column = 0; column < 6; column++) {
                due("4 free is " + free + ", told " + column, faultOf(others + "F2" + column), column == free ? 33 : 32);
            }
        }
        due("4 one and a row full at once", faultOf(TWELVE.substring(0, 66) + "P0"), 67);
        due("4 its last place", faultOf(TWELVE), NONE);
    }

    private static void faultOfLength() {
        for (int bytes = 0; bytes <= 72; bytes++) {
            due("4 " + bytes + " bytes", faultOf(TWELVE.substring(0, bytes)), bytes % 6 == 0 ? NONE : bytes);
        }
    }

    private static void firstFaultCounts() {
        due("4 at 0 and behind", faultOf("Xbcdef" + "P00999"), 0);
        due("4 at 5 and missing", faultOf("P0000xP"), 5);
        due("4 at 2, not where two sit", faultOf("P09000P00000P00000"), 2);
        due("4 a column, ahead of a letter", faultOf("P00000P00000p"), 8);
        due("4 a letter at the end of 72", faultOf(TWELVE.substring(0, 66) + "p15000"), 66);
        due("4 the last byte of 72", faultOf(TWELVE.substring(0, 71) + ":"), 71);
        due("4 all bytes 0", faultOf("\0\0\0\0\0\0"), 0);
    }

    // ---- 5: room

    private static void roomOfNoneToTwelve() {
        AHandGoesUp x = new AHandGoesUp();
        for (int pupils : new int[] {0, 12, 1, 11, 0, 2}) {
            x.wipe();
            Check.tell(x, TWELVE.substring(0, 6 * pupils));
            due("5 room of " + pupils, x.room(), pupils);
            due("5 they are so many", x.count(1), pupils);
            due("5 the text stays", x.count(0), 6 * pupils);
            due("5 none behind the last", x.about(pupils, 0), UNKNOWN);
            due("5 all never taken", x.lesson(4), pupils);
        }
        String mixed = "F35999P00000F20909P13090P24123F01456P33789F15012P22345F04678P30901F12234";
        AHandGoesUp y = Bounds.classOf(mixed);
        due("5 numbered as they are told", told(y).equals(mixed) ? 1 : 0, 1);
    }

    private static void roomRefusesFaults() {
        bounds.refuses("5 a fault", STATE, Bounds::faulty, AHandGoesUp::room);
        String[] wrong = {"X", "P", "P4", "P06", "P0000", "P00000P00000", "P00000P00", "F0000:"};
        for (String signs : wrong) {
            Bounds.Made scene = () -> {
                AHandGoesUp x = Bounds.lived();
                x.wipe();
                Check.tell(x, signs);
                return x;
            };
            bounds.refuses("5 room of " + signs, STATE, scene, AHandGoesUp::room);
        }
        AHandGoesUp x = new AHandGoesUp();
        for (int bytes = 1; bytes < 6; bytes++) {
            x.wipe();
            Check.tell(x, "P00000".substring(0, bytes));
            due("5 room of " + bytes + " bytes", x.room(), STATE);
            due("5 nobody yet", x.count(1), 0);
        }
        x.write(1, '0');
        due("5 the sixth byte", x.room(), 1);
    }

    private static void roomBeginsAnew() {
        AHandGoesUp x = Bounds.full();
        due("5 questions before", x.lesson(0), 3);
        due("5 room of full", x.room(), 12);
        for (int what = 0; what < 6; what++) {
            due("5 lesson " + what, x.lesson(what), what == 4 ? 12 : 0);
        }
        for (int pupil = 0; pupil < 12; pupil++) {
            due("5 dares as told " + pupil, x.about(pupil, 6), 5);
            due("5 never taken " + pupil, x.about(pupil, 7), 0);
        }
        due("5 the seed", x.seed(1), 0);
        due("5 slot 0", x.again(0), STATE);
        due("5 slot 1", x.again(1), STATE);
        x.keep(1);
        due("5 room with nothing new", x.room(), 12);
        due("5 seed once more", x.seed(0), 0);
        due("5 slot 1 is gone again", x.again(1), STATE);
        x.wipe();
        x.keep(0);
        due("5 room of nobody", x.room(), 0);
        due("5 slot 0 is gone too", x.again(0), STATE);
        due("5 nobody is left", x.up(0, 0), UNKNOWN);
        due("5 nobody has times", x.lesson(5), 0);
    }

    private static void roomLeavesTheRest() {
        AHandGoesUp x = Bounds.full();
        x.mood(9);
        List<Long> before = besides(x);
        due("5 room", x.room(), 12);
        due("5 the rest stays", besides(x).equals(before) ? 1 : 0, 1);
        due("5 mood stays", x.mood(0), 9);
        x.room();
        due("5 mood 0 stays", x.mood(5), 0);
        due("5 tapes are still full", x.tape(1, 0), FULL);
        due("5 trials are still full", x.trial(1, true), FULL);
    }

    /** Of those that sat there before nothing is left: it is as if the few had been told to a new object. */
    private static void roomOfFewer() {
        String twelve = "F00900F01900F02900F03900F04900F05900P10909P11909P12909P13909P14909P15909";
        for (int pupils = 0; pupils < 12; pupils++) {
            AHandGoesUp x = Bounds.classOf(twelve);
            x.mood(0);
            x.ask(4095, 9, 3, false);
            x.ask(4095, 9, 4, true);
            x.keep(0);
            x.right(9, 2, true);
            x.right(9, 0, true);
            String few = Bounds.TWELVE.substring(0, 6 * pupils);
            x.wipe();
            Check.tell(x, few);
            due("5 fewer", x.room(), pupils);
            AHandGoesUp y = Bounds.classOf(few);
            // of those that are gone the front row dares less, the second more
            x.mood(1);
            y.mood(1);
            due("5 none is left of " + pupils, chances(x, pupils).equals(chances(y, pupils)) ? 1 : 0, 1);
            due("5 nor in lessons", Bounds.all(x).equals(Bounds.all(y)) ? 1 : 0, 1);
        }
    }

    /** What chances tell, and whom each rule takes. */
    private static List<Long> chances(AHandGoesUp x, int pupils) {
        int all = (1 << pupils) - 1;
        List<Long> seen = new ArrayList<>();
        for (int w = 0; w < 10; w += 9) {
            seen.add((long) x.mean(w));
            seen.add((long) x.quiet(w));
            seen.add((long) x.await(99, w));
            seen.add((long) x.raised(all, w));
            seen.add((long) x.silent(all, w));
            for (int n = 0; n < 13; n += 3) {
                seen.add(x.hands(w, n, true));
                seen.add(x.given(w, n, n, true));
                seen.add((long) x.likely(w, n));
            }
            for (int rule = 0; rule < 5; rule++) {
                seen.add(x.taken(0, w, rule, true));
                seen.add(x.right(w, rule, true));
                seen.add((long) x.mostly(w, rule));
                seen.add((long) x.ask(0, w, rule, false));
                seen.add((long) x.ask(all, w, rule, false));
            }
        }
        return seen;
    }

    /** THE TEXT, TAPES and TRIALS. */
    private static List<Long> besides(AHandGoesUp x) {
        List<Long> seen = new ArrayList<>();
        for (int what : new int[] {0, 2, 3, 4}) {
            seen.add((long) x.count(what));
        }
        for (int one = 0; one < 12; one++) {
            seen.add((long) x.came(1 << one));
            seen.add(x.due(1 << one, true));
            seen.add(x.luck(1 << one, true));
        }
        seen.add(x.chance(true));
        seen.add(x.chance(false));
        return seen;
    }

    // ---- 6: about

    private static void aboutAtItsEnds() {
        bounds.takes("6 pupil of 3", 0, 2, UNKNOWN, Bounds::lived, (x, pupil) -> x.about(pupil, 0));
        bounds.takes("6 pupil of 12", 0, 11, UNKNOWN, Bounds::full, (x, pupil) -> x.about(pupil, 7));
        bounds.takes("6 what", 0, 7, OUTSIDE, Bounds::lived, (x, what) -> x.about(2, what));
        bounds.takes("6 what of 12", 0, 7, OUTSIDE, Bounds::full, (x, what) -> x.about(11, what));
        for (int pupil : Bounds.beyond(0, 2)) {
            bounds.refuses("6 UNKNOWN before OUTSIDE", UNKNOWN, Bounds::lived, x -> x.about(pupil, 8));
            bounds.refuses("6 UNKNOWN before -1", UNKNOWN, Bounds::lived, x -> x.about(pupil, -1));
        }
        bounds.refuses("6 of nobody", UNKNOWN, AHandGoesUp::new, x -> x.about(0, 8));
        AHandGoesUp x = Bounds.classOf("P00000F35999");
        int[] most = {3, 5, 9, 9, 9, 1, 9, 0};
        for (int what = 0; what < 8; what++) {
            due("6 least of " + what, x.about(0, what), 0);
            due("6 most of " + what, x.about(1, what), most[what]);
        }
        // what it was told to dare stays, how much it dares now does not
        x.mood(9);
        x.ask(0, 0, 0, true);
        due("6 dares as told", x.about(1, 4), 9);
        due("6 dares now", x.about(1, 6), 5);
        due("6 taken once", x.about(1, 7), 1);
        due("6 the other never", x.about(0, 7), 0);
    }

    // ---- 7: mood

    private static void moodAtItsEnds() {
        bounds.takes("7 mood", 0, 9, OUTSIDE, AHandGoesUp::new, AHandGoesUp::mood);
        bounds.takes("7 mood, lived", 0, 9, OUTSIDE, Bounds::lived, AHandGoesUp::mood);
        AHandGoesUp x = new AHandGoesUp();
        int was = 5;
        for (int m : new int[] {0, 0, 9, 9, 1, 8, 5}) {
            due("7 before " + m, x.mood(m), was);
            was = m;
        }
        // for each daring and MOOD: as much as MOOD or more
        for (int dares = 0; dares < 10; dares++) {
            AHandGoesUp y = Bounds.classOf("P0070" + dares + "F0100" + dares);
            for (int m = 0; m < 10; m++) {
                y.mood(m);
                due("7 dares " + dares + " in " + m, y.up(0, 9), dares >= m ? 7 : 0);
                due("7 F dares " + dares + " in " + m, y.up(1, 0), dares >= m ? 10 : 0);
            }
        }
    }
}
