/** Looks at all parts and all bounds of a form at once. */
final class Forms {
    private Forms() {
    }

    /**
     * The form of expression 0: center, loose part, plain ends, best ends, then pairs of a symbol and its coefficient;
     * all other coefficients are 0.
     */
    static void due(Check check, String name, AffineRanges x, long... want) {
        check.due(name + ": reason", x.reason(0), 0);
        check.due(name + ": center", x.part(0, 12), want[0]);
        check.due(name + ": loose part", x.part(0, 13), want[1]);
        check.due(name + ": plain lower end", x.bound(0, 1, 0), want[2]);
        check.due(name + ": plain upper end", x.bound(0, 1, 1), want[3]);
        check.due(name + ": best lower end", x.bound(0, 2, 0), want[4]);
        check.due(name + ": best upper end", x.bound(0, 2, 1), want[5]);
        long[] coefficients = new long[12];
        long radius = want[1];
        for (int i = 6; i + 1 < want.length; i += 2) {
            coefficients[(int) want[i]] = want[i + 1];
            radius += Math.abs(want[i + 1]);
        }
        for (int s = 0; s < 12; s++) check.due(name + ": coefficient " + s, x.part(0, s), coefficients[s]);
        check.due(name + ": radius", x.part(0, 14), radius);
        check.due(name + ": affine lower end", x.bound(0, 0, 0), want[0] - radius);
        check.due(name + ": affine upper end", x.bound(0, 0, 1), want[0] + radius);
        check.due(name + ": gain", x.gain(0), want[3] - want[2] - 2 * radius);
    }

    /** The plain range of expression 0. */
    static void plain(Check check, String name, AffineRanges x, long lo, long hi) {
        check.due(name + ": plain lower end", x.bound(0, 1, 0), lo);
        check.due(name + ": plain upper end", x.bound(0, 1, 1), hi);
    }
}
