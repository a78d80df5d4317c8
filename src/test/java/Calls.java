/** Runs of calls that many tests need. */
final class Calls {
    static final long GONE = -1000000000000000000L;
    static final long NO_SUCH = GONE - 1;
    static final long BAD_VALUE = GONE - 2;
    static final long NOT_POSSIBLE = GONE - 5;
    static final long NONE = GONE - 6;

    static final int[] BAD_NUMBERS = {Integer.MIN_VALUE, -7, -6, -5, -4, -3, -2, -1, 4, 5, 6, 31, 32, 33, Integer.MAX_VALUE};

    private Calls() {
    }

    static void say(AffineRanges x, String text) {
        for (int i = 0; i < text.length(); i++) x.say(text.charAt(i));
    }

    /** Loads a text in place of an expression; returns what load() returns. */
    static int load(AffineRanges x, int expression, String text) {
        x.wipe();
        say(x, text);
        return x.load(expression);
    }

    /** A new object with this text as expression 0. */
    static AffineRanges with(String text) {
        AffineRanges x = new AffineRanges();
        load(x, 0, text);
        return x;
    }

    /** Sets the domains of inputs 0, 1, .. from pairs of ends. */
    static AffineRanges over(AffineRanges x, int... ends) {
        for (int i = 0; i + 1 < ends.length; i += 2) x.setDomain(i / 2, ends[i], ends[i + 1]);
        return x;
    }
}
