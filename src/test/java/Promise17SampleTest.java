/** Promise 17: sample. */
final class Promise17SampleTest {
    private Promise17SampleTest() {
    }

    private static void sample(Check check, AffineRanges x, int position, long want) {
        check.due("sample(0, " + position + ", 0)", x.sample(0, position, 0), want);
        check.due("sample(0, " + position + ", 1)", x.sample(0, position, 1), want);
    }

    @Says("a number from 0 to 255, whose bits 0 and 1 tell for input 0, bits 2 and 3 for input 1, and so on")
    static void bitsOfEachInput(Check check) {
        String[] inputs = {"a", "b", "c", "d"};
        int[] values = {3, 11, 7, 5};
        for (int i = 0; i < 4; i++) {
            AffineRanges x = Calls.over(Calls.with(inputs[i]), 3, 11, 3, 11, 3, 11, 3, 11);
            for (int position = 0; position < 256; position += 17) sample(check, x, position, values[position >> (2 * i) & 3]);
            for (int k = 0; k < 4; k++) {
                sample(check, x, k << (2 * i), values[k]);
                sample(check, x, 255 ^ (k << (2 * i)), values[3 - k]);
            }
        }
    }

    @Says("- `position`: a number from 0 to 255")
    static void firstAndLastPosition(Check check) {
        AffineRanges x = Calls.over(Calls.with("a+b+c+d"), 0, 4, 0, 40, 0, 400, 0, 4000);
        sample(check, x, 0, 0);
        sample(check, x, 255, 1111);
        sample(check, x, 85, 4444);
        sample(check, x, 170, 2222);
        sample(check, x, 1, 4);
        sample(check, x, 64, 4000);
        sample(check, x, 228, 0 + 40 + 200 + 1000);
    }

    @Says("BAD_VALUE if another argument is out of range")
    static void positionOutOfRange(Check check) {
        AffineRanges x = Calls.with("a");
        int[] wrong = {Integer.MIN_VALUE, -256, -2, -1, 256, 257, 512, Integer.MAX_VALUE};
        for (int position : wrong) check.due("sample(0, " + position + ", 0)", x.sample(0, position, 0), Calls.BAD_VALUE);
    }

    @Says("BAD_VALUE if another argument is out of range")
    static void sideOutOfRange(Check check) {
        AffineRanges x = Calls.with("a");
        int[] wrong = {Integer.MIN_VALUE, -2, -1, 2, 3, Integer.MAX_VALUE};
        for (int side : wrong) check.due("sample(0, 0, " + side + ")", x.sample(0, 0, side), Calls.BAD_VALUE);
    }

    @Says("0 lo, 1 hi, 2 (lo + hi) >> 1, 3 (3 * lo + hi) >> 2")
    static void numbersAreRoundedDown(Check check) {
        int[][] rows = {{3, 8, 5, 4}, {-9, -4, -7, -8}, {-8, -3, -6, -7}, {-1, 0, -1, -1}, {0, 1, 0, 0}, {-1, 2, 0, -1}, {-3, 2, -1, -2}, {-2, 1, -1, -2}, {5, 5, 5, 5}, {-5, -5, -5, -5}};
        for (int[] row : rows) {
            AffineRanges x = Calls.over(Calls.with("a"), row[0], row[1]);
            for (int k = 0; k < 4; k++) sample(check, x, k, row[k]);
        }
    }

    @Says("x >> k is x divided by 2 to the power of k, rounded down (also for negative x)")
    static void negativeNumbersAreRoundedDown(Check check) {
        AffineRanges x = Calls.over(Calls.with("c"), 0, 0, 0, 0, -2, -1);
        sample(check, x, 32, -2);
        sample(check, x, 48, -2);
        x.setDomain(2, -5, -4);
        sample(check, x, 32, -5);
        sample(check, x, 48, -5);
    }

    @Says("0 lo, 1 hi, 2 (lo + hi) >> 1, 3 (3 * lo + hi) >> 2")
    static void numbersOfWideDomains(Check check) {
        int[][] rows = {{-100000, 100000, 0, -50000}, {99999, 100000, 99999, 99999}, {-100000, -99999, -100000, -100000}, {100000, 100000, 100000, 100000}, {0, 100000, 50000, 25000}};
        for (int[] row : rows) {
            AffineRanges x = Calls.over(Calls.with("b"), 0, 0, row[0], row[1]);
            for (int k = 0; k < 4; k++) sample(check, x, 4 * k, row[k]);
        }
    }

    @Says("Returns the end of the best range of the form over the box in which each domain consists of this number only")
    static void bothEndsAtAPoint(Check check) {
        AffineRanges x = Calls.over(Calls.with("0.33*a"), 256, 512);
        check.due("sample(0, 0, 0)", x.sample(0, 0, 0), 84);
        check.due("sample(0, 0, 1)", x.sample(0, 0, 1), 85);
        check.due("sample(0, 1, 0)", x.sample(0, 1, 0), 168);
        check.due("sample(0, 1, 1)", x.sample(0, 1, 1), 170);
        sample(check, Calls.with("7"), 99, 1792);
        sample(check, Calls.with("a*b-b*a"), 102, 0);
    }

    @Says("as GONE plus the code: NO_SUCH if there is no such expression")
    static void noSuchExpression(Check check) {
        AffineRanges x = Calls.with("a");
        for (int e = 1; e < 4; e++) check.due("sample(" + e + ", 0, 0)", x.sample(e, 0, 0), Calls.NO_SUCH);
        for (int e : Calls.BAD_NUMBERS) check.due("sample(" + e + ", 0, 0)", x.sample(e, 0, 0), Calls.NO_SUCH);
    }

    @Says("NOT_POSSIBLE if this form is wild.")
    static void wildAtThePointOnly(Check check) {
        // Over the box R(a) is not wild, but at its lower end it is.
        AffineRanges x = Calls.over(Calls.with("R(a)"), -256, 256);
        check.due("reason(0)", x.reason(0), 0);
        sample(check, x, 0, Calls.NOT_POSSIBLE);
        sample(check, x, 3, Calls.NOT_POSSIBLE);
        sample(check, x, 1, 256);
        sample(check, x, 2, 0);
    }

    @Says("NOT_POSSIBLE if this form is wild.")
    static void wildOverTheBoxOnly(Check check) {
        AffineRanges x = Calls.over(Calls.with("1/a"), -256, 256);
        check.due("reason(0)", x.reason(0), 1);
        sample(check, x, 0, -256);
        sample(check, x, 1, 256);
        sample(check, x, 2, Calls.NOT_POSSIBLE);
        sample(check, x, 3, -512);
    }

    @Says("it names its errors in the order in which they are checked, and the first that applies is returned")
    static void orderOfErrors(Check check) {
        AffineRanges x = Calls.with("1/a");
        check.due("sample(1, 256, 2)", x.sample(1, 256, 2), Calls.NO_SUCH);
        check.due("sample(0, 256, 0)", x.sample(0, 256, 0), Calls.BAD_VALUE);
        check.due("sample(0, 0, 2)", x.sample(0, 0, 2), Calls.BAD_VALUE);
        check.due("sample(0, 0, 1)", x.sample(0, 0, 1), Calls.NOT_POSSIBLE);
    }

    @Says("A call that returns an error code changes nothing.")
    static void changesNothing(Check check) {
        Twins.changesNothing(check, "sample(1, 0, 0)", Calls.NO_SUCH, x -> x.sample(1, 0, 0));
        Twins.changesNothing(check, "sample(0, 256, 0)", Calls.BAD_VALUE, x -> x.sample(0, 256, 0));
        Twins.changesNothing(check, "sample(0, 0, 2)", Calls.BAD_VALUE, x -> x.sample(0, 0, 2));
        Twins.changesNothing(check, "sample(2, 0, 0)", Calls.NOT_POSSIBLE, x -> x.sample(2, 0, 0));
        Twins.changesNothing(check, "sample(3, 4, 0)", 158, x -> x.sample(3, 4, 0));
    }
}
