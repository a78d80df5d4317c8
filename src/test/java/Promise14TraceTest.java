/** Promise 14: trace. */
final class Promise14TraceTest {
    private Promise14TraceTest() {
    }

    private static void trace(Check check, AffineRanges x, int step, long lo, long hi) {
        check.due("trace(0, " + step + ", 0)", x.trace(0, step, 0), lo);
        check.due("trace(0, " + step + ", 1)", x.trace(0, step, 1), hi);
    }

    @Says("Returns an end of the best range after a step.")
    static void firstToLastStep(Check check) {
        AffineRanges x = Calls.over(Calls.with("a^3-0.33*b"), 256, 512, -256, 0);
        long[][] want = {{256, 512}, {256, 512}, {256, 1024}, {256, 2048}, {84, 85}, {-256, 0}, {-85, 0}, {256, 2133}};
        check.due("steps", x.step(0, -1, 0), want.length);
        for (int i = 0; i < want.length; i++) trace(check, x, i, want[i][0], want[i][1]);
        check.due("bound(0, 2, 0)", x.bound(0, 2, 0), 256);
        check.due("bound(0, 2, 1)", x.bound(0, 2, 1), 2133);
    }

    @Says("Returns an end of the best range after a step.")
    static void bestOfBothRanges(Check check) {
        // a * b: plain from 0, affine from -128; a * (1 - a): affine up to 128, plain up to 256.
        trace(check, Calls.with("a*b+c"), 2, 0, 256);
        trace(check, Calls.with("a*(1-a)+c"), 4, 0, 128);
        trace(check, Calls.with("a-a+c"), 2, 0, 0);
    }

    @Says("(as it is directly after this step)")
    static void asDirectlyBehindTheStep(Check check) {
        // What is condensed later does not count.
        AffineRanges x = Calls.with("(a-a^2)*b^2+c^2+d^2");
        long[] lows = new long[13];
        for (int symbols = 8; symbols >= 0; symbols -= 2) {
            x.setSymbols(symbols);
            for (int i = 0; i < 6; i++) {
                if (symbols == 8) lows[i] = x.trace(0, i, 0);
                check.due(symbols + " symbols: trace(0, " + i + ", 0)", x.trace(0, i, 0), lows[i]);
            }
        }
        AffineRanges y = Calls.with("(a-a^2)");
        check.due("trace(0, 3, 0)", x.trace(0, 3, 0), y.bound(0, 2, 0));
        check.due("trace(0, 3, 1)", x.trace(0, 3, 1), y.bound(0, 2, 1));
    }

    @Says("NO_SUCH if there is no such expression or step")
    static void noSuchStep(Check check) {
        AffineRanges x = Calls.with("a+b");
        int[] wrong = {Integer.MIN_VALUE, -2, -1, 3, 4, 59, 60, 61, Integer.MAX_VALUE};
        for (int step : wrong) {
            check.due("trace(0, " + step + ", 0)", x.trace(0, step, 0), Calls.NO_SUCH);
            check.due("trace(0, " + step + ", 1)", x.trace(0, step, 1), Calls.NO_SUCH);
        }
        trace(check, x, 0, 0, 256);
        trace(check, x, 2, 0, 512);
    }

    @Says("NO_SUCH if there is no such expression or step")
    static void noSuchExpression(Check check) {
        AffineRanges x = Calls.with("a");
        for (int e = 1; e < 4; e++) check.due("trace(" + e + ", 0, 0)", x.trace(e, 0, 0), Calls.NO_SUCH);
        for (int e : Calls.BAD_NUMBERS) check.due("trace(" + e + ", 0, 0)", x.trace(e, 0, 0), Calls.NO_SUCH);
    }

    @Says("BAD_VALUE if side is neither 0 nor 1")
    static void noSuchSide(Check check) {
        AffineRanges x = Calls.with("a");
        int[] wrong = {Integer.MIN_VALUE, -2, -1, 2, 3, Integer.MAX_VALUE};
        for (int side : wrong) check.due("trace(0, 0, " + side + ")", x.trace(0, 0, side), Calls.BAD_VALUE);
    }

    @Says("NOT_POSSIBLE if this form is wild.")
    static void wildForms(Check check) {
        AffineRanges x = Calls.with("b-1/a*0+c");
        // b, 1, a, 1 / a, 0, (1 / a) * 0, the difference, c, the sum
        boolean[] wild = {false, false, false, true, false, true, true, false, true};
        for (int i = 0; i < wild.length; i++) {
            for (int side = 0; side < 2; side++) {
                long got = x.trace(0, i, side);
                check.that("trace(0, " + i + ", " + side + ") answered " + got, wild[i] == (got == Calls.NOT_POSSIBLE));
            }
        }
        trace(check, x, 2, 0, 256);
        trace(check, x, 7, 0, 256);
        // Each step behind 1 / 0 is wild, the copy and its square, too.
        x = Calls.with("-(1/0)^3");
        for (int i = 2; i < 7; i++) {
            check.due("trace(0, " + i + ", 0)", x.trace(0, i, 0), Calls.NOT_POSSIBLE);
            check.due("trace(0, " + i + ", 1)", x.trace(0, i, 1), Calls.NOT_POSSIBLE);
        }
        check.due("trace(0, 7, 0)", x.trace(0, 7, 0), Calls.NO_SUCH);
    }

    /** The second term's forms are the same without the wild form that waits beside them. */
    private static void besideAWildForm(Check check, String wild, String other, int... ends) {
        AffineRanges x = Calls.over(Calls.with(wild + "+(" + other + ")"), ends);
        AffineRanges y = Calls.over(Calls.with(other), ends);
        int first = Calls.with(wild).step(0, -1, 0);
        int steps = y.step(0, -1, 0);
        check.due("trace of " + wild, x.trace(0, first - 1, 0), Calls.NOT_POSSIBLE);
        for (int symbols = 0; symbols <= 8; symbols++) {
            x.setSymbols(symbols);
            y.setSymbols(symbols);
            for (int i = 0; i < steps; i++) {
                check.due(wild + "+(" + other + "), " + symbols + " symbols: trace(0, " + (first + i) + ", 0)", x.trace(0, first + i, 0), y.trace(0, i, 0));
                check.due(wild + "+(" + other + "), " + symbols + " symbols: trace(0, " + (first + i) + ", 1)", x.trace(0, first + i, 1), y.trace(0, i, 1));
            }
        }
    }

    @Says("A wild form counts as one without coefficients.")
    static void namesBesideAWildForm(Check check) {
        // Each of the wild forms would have had coefficients of symbols that may be used.
        besideAWildForm(check, "99*a^4", "a+b^3*a", -90000, 100000, -97, -87);
        besideAWildForm(check, "99*a^4", "b-b^3*b", -90000, 100000, 83, 208);
        besideAWildForm(check, "99*a^4", "d^4*a-a", -90000, 100000, -50000, 60000, -114, -113, -281, -280);
        besideAWildForm(check, "a^4*c", "b-b*c^4", -90000, 100000, -50000, 60000, -126, -111);
        besideAWildForm(check, "(a*b)^4", "b-b^4*b", -90000, 100000, 151, 173);
        besideAWildForm(check, "(c^2)/0", "(a*a-b*b)*a", 3, 97, 5, 99, 0, 50000);
        AffineRanges x = Calls.over(Calls.with("99*a^4+(a+b^3*a)"), -90000, 100000, -97, -87);
        x.setSymbols(2);
        trace(check, x, 12, -88912, 98442);
    }

    @Says("it names its errors in the order in which they are checked, and the first that applies is returned")
    static void orderOfErrors(Check check) {
        AffineRanges x = Calls.with("1/a");
        check.due("trace(1, 0, 2)", x.trace(1, 0, 2), Calls.NO_SUCH);
        check.due("trace(0, 3, 2)", x.trace(0, 3, 2), Calls.NO_SUCH);
        check.due("trace(0, -1, -1)", x.trace(0, -1, -1), Calls.NO_SUCH);
        check.due("trace(0, 2, 2)", x.trace(0, 2, 2), Calls.BAD_VALUE);
        check.due("trace(0, 2, 1)", x.trace(0, 2, 1), Calls.NOT_POSSIBLE);
    }

    @Says("A call that returns an error code changes nothing.")
    static void changesNothing(Check check) {
        Twins.changesNothing(check, "trace(1, 0, 0)", Calls.NO_SUCH, x -> x.trace(1, 0, 0));
        Twins.changesNothing(check, "trace(0, 60, 0)", Calls.NO_SUCH, x -> x.trace(0, 60, 0));
        Twins.changesNothing(check, "trace(0, 0, 2)", Calls.BAD_VALUE, x -> x.trace(0, 0, 2));
        Twins.changesNothing(check, "trace(2, 2, 0)", Calls.NOT_POSSIBLE, x -> x.trace(2, 2, 0));
    }
}
