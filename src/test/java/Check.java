/** Compares answers with those that are due, prints each that is wrong, and ends with 1 if there was one. */
final class Check {
    private int wrong;
    private int asked;

    void due(String call, long got, long want) {
        asked++;
        if (got != want) {
            wrong++;
            System.out.println(call + " answered " + got + ", due is " + want);
        }
    }

    /** A fraction, told above and below. */
    void due(String call, long above, long below, long wantAbove, long wantBelow) {
        due(call + " above", above, wantAbove);
        due(call + " below", below, wantBelow);
    }

    boolean hasWrong() {
        return wrong > 0;
    }

    void end() {
        System.out.println(wrong == 0 ? asked + " answers are as due" : wrong + " of " + asked + " answers are not as due");
        if (wrong > 0) {
            System.exit(1);
        }
    }

    /** Writes signs 0 to 255 behind THE TEXT, eight at a time. */
    static void tell(AHandGoesUp x, String signs) {
        for (int from = 0; from < signs.length(); from += 8) {
            int to = Math.min(from + 8, signs.length());
            long v = 0;
            for (int i = from; i < to; i++) {
                v = v << 8 | signs.charAt(i);
            }
            x.write(to - from, v);
        }
    }

    /** A new object whose CLASS is told by these signs. */
    static AHandGoesUp classOf(String signs) {
        AHandGoesUp x = new AHandGoesUp();
        tell(x, signs);
        x.room();
        return x;
    }
}
