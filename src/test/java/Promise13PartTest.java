/** Promise 13: part; and how each step makes the center, the coefficients and the loose part of its form. */
final class Promise13PartTest {
    private Promise13PartTest() {
    }

    private static void form(Check check, String text, int[] ends, long... want) {
        Forms.due(check, text, Calls.over(Calls.with(text), ends), want);
    }

    private static int[] over(int... ends) {
        return ends;
    }

    private static AffineRanges withoutNames(String text, int... ends) {
        AffineRanges x = Calls.over(Calls.with(text), ends);
        x.setSymbols(0);
        return x;
    }

    // ---- the call itself

    @Says("- `what`: 0 to 11 for the coefficient of this symbol, 12 for the center, 13 for the loose part, 14 for the radius")
    static void allParts(Check check) {
        AffineRanges x = Calls.with("a-3*b^2+0.33");
        // b ^ 2 is 96 + 128 of its input + 32 of a symbol; 0.33 is 84 and a loose part of 1.
        long[] want = {128, -384, 0, 0, -96, 0, 0, 0, 0, 0, 0, 0, 128 - 288 + 84, 1, 609};
        for (int what = 0; what <= 14; what++) check.due("part(0, " + what + ")", x.part(0, what), want[what]);
    }

    @Says("- `what`: 0 to 11 for the coefficient of this symbol")
    static void firstAndLastSymbol(Check check) {
        AffineRanges x = Calls.with("a^2+a^2+a^2+a^2+a^2+a^2+a^2+b^2");
        x.setSymbols(8);
        x.setDomain(1, 0, 512);
        check.due("part(0, 0)", x.part(0, 0), 7 * 128);
        check.due("part(0, 11)", x.part(0, 11), 128);
        check.due("part(0, 10)", x.part(0, 10), 32);
    }

    @Says("BAD_VALUE if what is not 0 to 14")
    static void noSuchPart(Check check) {
        AffineRanges x = Calls.with("a");
        int[] wrong = {Integer.MIN_VALUE, -2, -1, 15, 16, 100, Integer.MAX_VALUE};
        for (int what : wrong) check.due("part(0, " + what + ")", x.part(0, what), Calls.BAD_VALUE);
    }

    @Says("as GONE plus the code: NO_SUCH if there is no such expression")
    static void noSuchExpression(Check check) {
        AffineRanges x = Calls.with("a");
        for (int e = 1; e < 4; e++) check.due("part(" + e + ", 12)", x.part(e, 12), Calls.NO_SUCH);
        for (int e : Calls.BAD_NUMBERS) check.due("part(" + e + ", 12)", x.part(e, 12), Calls.NO_SUCH);
    }

    @Says("Everything is numbered from 0.")
    static void symbolsFromZero(Check check) {
        AffineRanges x = Calls.with("a+2*d");
        check.due("part(0, 0)", x.part(0, 0), 128);
        check.due("part(0, 3)", x.part(0, 3), 256);
        check.due("part(0, 4)", x.part(0, 4), 0);
        check.due("part(0, -1)", x.part(0, -1), Calls.BAD_VALUE);
    }

    @Says("NOT_POSSIBLE if the form is wild.")
    static void wildForms(Check check) {
        AffineRanges x = Calls.with("a+1/b");
        for (int what = 0; what <= 14; what++) check.due("part(0, " + what + ")", x.part(0, what), Calls.NOT_POSSIBLE);
        x.setDomain(1, 1, 2);
        check.due("part(0, 0) then", x.part(0, 0), 128);
    }

    @Says("it names its errors in the order in which they are checked, and the first that applies is returned")
    static void orderOfErrors(Check check) {
        AffineRanges x = Calls.with("1/a");
        check.due("part(1, 15)", x.part(1, 15), Calls.NO_SUCH);
        check.due("part(-1, -1)", x.part(-1, -1), Calls.NO_SUCH);
        check.due("part(0, 15)", x.part(0, 15), Calls.BAD_VALUE);
        check.due("part(0, -1)", x.part(0, -1), Calls.BAD_VALUE);
        check.due("part(0, 14)", x.part(0, 14), Calls.NOT_POSSIBLE);
    }

    @Says("A call that returns an error code changes nothing.")
    static void changesNothing(Check check) {
        Twins.changesNothing(check, "part(1, 0)", Calls.NO_SUCH, x -> x.part(1, 0));
        Twins.changesNothing(check, "part(0, 15)", Calls.BAD_VALUE, x -> x.part(0, 15));
        Twins.changesNothing(check, "part(2, 0)", Calls.NOT_POSSIBLE, x -> x.part(2, 0));
    }

    // ---- forms

    @Says("Its radius r is the sum of the absolute values of all coefficients, plus e")
    static void radius(Check check) {
        check.due("radius of a-b", Calls.with("a-b").part(0, 14), 256);
        check.due("radius of -a", Calls.with("-a").part(0, 14), 128);
        check.due("radius of 0.33-0.67", Calls.with("0.33-0.67").part(0, 14), 2);
        check.due("radius of a-a", Calls.with("a-a").part(0, 14), 0);
        check.due("radius of 0.33-a*b", Calls.with("0.33-a*b").part(0, 14), 193);
        check.due("radius of 7", Calls.with("7").part(0, 14), 0);
    }

    @Says("The form of an input has the center c = (lo + hi) >> 1")
    static void centerOfAnInput(Check check) {
        int[][] ends = {{3, 8}, {-8, -3}, {-7, -3}, {-1, 0}, {0, 1}, {-1, 2}, {-2, 1}, {-100000, 99999}, {-100000, 100000}, {5, 5}, {-5, -5}, {99999, 100000}};
        int[] centers = {5, -6, -5, -1, 0, 0, -1, -1, 0, 5, -5, 99999};
        for (int i = 0; i < ends.length; i++) check.due("center " + i, Calls.over(Calls.with("a"), ends[i]).part(0, 12), centers[i]);
    }

    @Says("x >> k is x divided by 2 to the power of k, rounded down (also for negative x)")
    static void negativeCentersAreRoundedDown(Check check) {
        check.due("center of -8 to -3", Calls.over(Calls.with("a"), -8, -3).part(0, 12), -6);
        check.due("center of -1 to 0", Calls.over(Calls.with("a"), -1, 0).part(0, 12), -1);
        check.due("center of -99999 to -99998", Calls.over(Calls.with("a"), -99999, -99998).part(0, 12), -99999);
        check.due("center of L from -3 to 0", Calls.over(Calls.with("L(a,b)"), -3, 1, -1, 0).part(0, 12), -2);
    }

    @Says("the coefficient of its own symbol is the greater one of hi - c and c - lo")
    static void coefficientOfAnInput(Check check) {
        form(check, "a", over(3, 8), 5, 0, 3, 8, 3, 8, 0, 3);
        form(check, "a", over(-8, -3), -6, 0, -8, -3, -8, -3, 0, 3);
        form(check, "a", over(-1, 0), -1, 0, -1, 0, -1, 0, 0, 1);
        form(check, "a", over(0, 1), 0, 0, 0, 1, 0, 1, 0, 1);
        form(check, "a", over(0, 2), 1, 0, 0, 2, 0, 2, 0, 1);
        form(check, "a", over(7, 7), 7, 0, 7, 7, 7, 7);
        form(check, "a", over(-100000, 100000), 0, 0, -100000, 100000, -100000, 100000, 0, 100000);
        form(check, "a", over(-100000, 99999), -1, 0, -100000, 99999, -100000, 99999, 0, 100000);
    }

    @Says("Noise symbols 0 to 3 belong to the inputs.")
    static void symbolsOfTheInputs(Check check) {
        String[] inputs = {"a", "b", "c", "d"};
        for (int i = 0; i < 4; i++) {
            AffineRanges x = Calls.with(inputs[i]);
            for (int s = 0; s < 12; s++) check.due("part(0, " + s + ") of " + inputs[i], x.part(0, s), s == i ? 128 : 0);
        }
        // They do not count as symbols that may be used.
        form(check, "b^2", over(), 96, 0, 0, 256, 0, 256, 1, 128, 4, 32);
    }

    @Says("The others, 4 to 11, are free at the beginning of an evaluation.")
    static void freeAgainInTheNextEvaluation(Check check) {
        AffineRanges x = Calls.with("a^2+b^2");
        for (int i = 0; i < 3; i++) {
            check.due("part(0, 4)", x.part(0, 4), 32);
            check.due("part(0, 5)", x.part(0, 5), 32);
            check.due("part(0, 6)", x.part(0, 6), 0);
        }
        Calls.load(x, 1, "c^2");
        check.due("part(1, 4)", x.part(1, 4), 32);
        check.due("part(1, 5)", x.part(1, 5), 0);
        x.compare(0, 1);
        x.trace(0, 2, 0);
        check.due("part(1, 4), again", x.part(1, 4), 32);
    }

    @Says("c = 256 * v / 100, rounded down, e is 0 and the plain range from c to c if this is exact")
    static void exactNumbers(Check check) {
        form(check, "0", over(), 0, 0, 0, 0, 0, 0);
        form(check, "0.0", over(), 0, 0, 0, 0, 0, 0);
        form(check, "1", over(), 256, 0, 256, 256, 256, 256);
        form(check, "0.25", over(), 64, 0, 64, 64, 64, 64);
        form(check, "0.75", over(), 192, 0, 192, 192, 192, 192);
        form(check, "999", over(), 255744, 0, 255744, 255744, 255744, 255744);
        form(check, "999.5", over(), 255872, 0, 255872, 255872, 255872, 255872);
    }

    @Says("otherwise e is 1 and the plain range is from c to c + 1")
    static void roundedNumbers(Check check) {
        form(check, "0.01", over(), 2, 1, 2, 3, 2, 3);
        form(check, "0.24", over(), 61, 1, 61, 62, 61, 62);
        form(check, "0.26", over(), 66, 1, 66, 67, 66, 67);
        form(check, "0.99", over(), 253, 1, 253, 254, 253, 254);
        form(check, "999.99", over(), 255997, 1, 255997, 255998, 255997, 255998);
    }

    @Says("has the center c = (l + u) >> 1, no coefficients, the greater one of u - c and c - l as its loose part")
    static void formsMadeFromRanges(Check check) {
        Forms.due(check, "even", withoutNames("L(a,b)", -10, 0, -6, -2), -6, 4, -10, -2, -10, -2);
        Forms.due(check, "uneven", withoutNames("A(a)", -1, 7), 3, 4, 0, 7, 0, 7);
        Forms.due(check, "uneven and negative", withoutNames("L(a,b)", -10, 0, -7, -3), -7, 4, -10, -3, -10, -3);
        Forms.due(check, "a point", withoutNames("R(a)", -5, 0), 0, 0, 0, 0, 0, 0);
        Forms.due(check, "from -1 to 0", withoutNames("L(a,b)", -1, 1, 0, 0), -1, 1, -1, 0, -1, 0);
    }

    // ---- operations

    @Says("- ADD: the sums of centers, coefficients, loose parts and ends of the plain ranges.")
    static void sums(Check check) {
        form(check, "a+b", over(3, 8, -8, -3), -1, 0, -5, 5, -5, 5, 0, 3, 1, 3);
        form(check, "a+a", over(3, 8), 10, 0, 6, 16, 6, 16, 0, 6);
        form(check, "0.33+0.67", over(), 255, 2, 255, 257, 255, 257);
        Forms.due(check, "a^2+b", withoutNames("a^2+b", 0, 256, 3, 8), 101, 32, 3, 264, 3, 264, 0, 128, 1, 3);
    }

    @Says("SUBTRACT: the differences of centers and coefficients, the sum of the loose parts")
    static void differences(Check check) {
        form(check, "a-b", over(3, 8, -8, -3), 11, 0, 6, 16, 6, 16, 0, 3, 1, -3);
        form(check, "a-a", over(3, 8), 0, 0, -5, 5, 0, 0);
        form(check, "0.33-0.67", over(), -87, 2, -88, -86, -88, -86);
        Forms.due(check, "a^2-b^2", withoutNames("a^2-b^2"), 0, 64, -256, 256, -256, 256, 0, 128, 1, -128);
    }

    @Says("NEGATE: center and coefficients with the opposite sign, the same loose part")
    static void negations(Check check) {
        form(check, "-a", over(3, 8), -5, 0, -8, -3, -8, -3, 0, -3);
        form(check, "-0.33", over(), -84, 1, -85, -84, -85, -84);
        Forms.due(check, "-a^2", withoutNames("-a^2"), -96, 32, -256, 0, -256, 0, 0, -128);
    }

    @Says("COPY: the same form.")
    static void copies(Check check) {
        // x is 96 + 128 of its input, and a loose part of 32: its square is 86 + 96, and 74.
        Forms.due(check, "(a^2)^3", withoutNames("(a^2)^3"), 32, 146, 0, 256, 0, 256, 0, 79);
        // The loose part of a copy gets no name, and the form that is copied is not used yet: the second name goes to symbol 4,
        // which is condensed in both, and the third one to symbol 5.
        form(check, "(a^2+b^2+c^2+d^2+a^2)^3", over(), 4031, 0, 0, 32000, 0, 32000, 0, 3950, 1, 1975, 2, 1975, 3, 1975, 4, 2793, 5, 14317, 6, 493, 7, 493);
    }

    @Says("MULTIPLY: the center c * d and the coefficients c * b + d * a, each of them divided by 256 and rounded down")
    static void productsRoundedDown(Check check) {
        // -30, -18 and 15 become -1, -1 and 0.
        Forms.due(check, "a*b", withoutNames("a*b", 3, 8, -8, -3), -1, 4, -1, 0, -1, 0, 0, -1);
        // 9, 6 become 0, 0.
        Forms.due(check, "a*a", withoutNames("a*a", 2, 4), 0, 3, 0, 1, 0, 1);
        // -9, 3 of a - 3 of b: -6 of a, .. become -1 and -1, 0.
        Forms.due(check, "a*(-b)", withoutNames("a*(-b)", 2, 4, 2, 4), -1, 4, -1, 0, -1, 0, 0, -1, 1, -1);
        Forms.due(check, "nothing to round", withoutNames("a*b", 0, 512, -512, 0), -256, 256, -1024, 0, -1024, 0, 0, -256, 1, 256);
    }

    @Says("MULTIPLY: the center c * d and the coefficients c * b + d * a")
    static void productsOfOneInput(Check check) {
        Forms.due(check, "a*(1-a)", withoutNames("a*(1-a)"), 64, 64, 0, 256, 0, 128);
        Forms.due(check, "a*a", withoutNames("a*a"), 64, 64, 0, 256, 0, 256, 0, 128);
        Forms.due(check, "a*(a-b)", withoutNames("a*(a-b)"), 0, 128, -256, 256, -256, 256, 0, 64, 1, -64);
    }

    @Says("the loose part |c| * g + |d| * e + r * s, divided by 256 and rounded up")
    static void loosePartsOfProducts(Check check) {
        // 84 + 171 + 1 is 256.
        Forms.due(check, "0.33*0.67", withoutNames("0.33*0.67"), 56, 2, 56, 58, 56, 58);
        Forms.due(check, "(-0.33)*0.67", withoutNames("(-0.33)*0.67"), -57, 2, -58, -56, -58, -56);
        Forms.due(check, "(-0.33)*(-0.67)", withoutNames("(-0.33)*(-0.67)"), 56, 2, 56, 58, 56, 58);
        // 122 + 135 + 1 is 258.
        Forms.due(check, "0.48*0.53", withoutNames("0.48*0.53"), 64, 3, 64, 66, 64, 66);
        Forms.due(check, "a^2*(-b^2)", withoutNames("a^2*(-b^2)", 256, 512, 256, 512), -1444, 828, -4096, -256, -4096, -256, 0, -912, 1, -912);
        // 1 times 0.33: |c| * g alone, and |d| * e alone.
        Forms.due(check, "2*0.33", withoutNames("2*0.33"), 168, 2, 168, 170, 168, 170);
        Forms.due(check, "0.33*2", withoutNames("0.33*2"), 168, 2, 168, 170, 168, 170);
        Forms.due(check, "0*0.33", withoutNames("0*0.33"), 0, 0, 0, 0, 0, 0);
        // |c| * g with a negative center, and |d| * e with one.
        Forms.due(check, "(-a^2)*b^2", withoutNames("(-a^2)*b^2", 256, 512, 256, 512), -1444, 828, -4096, -256, -4096, -256, 0, -912, 1, -912);
        Forms.due(check, "(-100)*0.33", withoutNames("(-100)*0.33"), -8400, 100, -8500, -8400, -8500, -8400);
        Forms.due(check, "0.33*(-100)", withoutNames("0.33*(-100)"), -8400, 100, -8500, -8400, -8500, -8400);
        // r * s is 1, and is rounded up to 1.
        Forms.due(check, "a*b", withoutNames("a*b", -1, 1, -1, 1), 0, 1, -1, 1, -1, 1);
    }

    @Says("plus the number of those of the center and the coefficients that had to be rounded")
    static void countOfRoundings(Check check) {
        // 1, 16, 128 and 255 are rounded, and nothing else: there is no radius.
        Forms.due(check, "a*b, 1", withoutNames("a*b", 1, 1, 1, 1), 0, 1, 0, 1, 0, 1);
        Forms.due(check, "a*b, 128", withoutNames("a*b", 128, 128, 1, 1), 0, 1, 0, 1, 0, 1);
        Forms.due(check, "a*b, 255", withoutNames("a*b", 255, 255, 1, 1), 0, 1, 0, 1, 0, 1);
        Forms.due(check, "a*b, 256", withoutNames("a*b", 256, 256, 1, 1), 1, 0, 1, 1, 1, 1);
        // The center and one coefficient are 128.
        Forms.due(check, "a*b, a coefficient of 128", withoutNames("a*b", 128, 128, 0, 2), 0, 2, 0, 1, 0, 1);
        Forms.due(check, "a*b, points", withoutNames("a*b", 4, 4, 4, 4), 0, 1, 0, 1, 0, 1);
        Forms.due(check, "a*b, exact", withoutNames("a*b", 16, 16, 16, 16), 1, 0, 1, 1, 1, 1);
        // The center, and the coefficients of a and b; their sum is rounded once.
        Forms.due(check, "a*(a-b)", withoutNames("a*(a-b)", 2, 4, 2, 4), 0, 3, -1, 1, -1, 1, 1, -1);
        Forms.due(check, "(a+b)*(c+d)", withoutNames("(a+b)*(c+d)", 2, 4, 2, 4, 2, 4, 2, 4), 0, 6, 0, 1, 0, 1);
        // Coefficients that are 0 or exact are not rounded.
        Forms.due(check, "a*1", withoutNames("a*1", 3, 8), 5, 0, 3, 8, 3, 8, 0, 3);
    }

    @Says("SQUARE: the center 2 * c * c + r * r, divided by 512 and rounded down; the coefficients 2 * c * a, divided by 256 and rounded down")
    static void squaresRoundedDown(Check check) {
        // 18 + 1 and 6 become 0 and 0.
        Forms.due(check, "a^2", withoutNames("a^2", 2, 4), 0, 3, 0, 1, 0, 1);
        // -6 becomes -1.
        Forms.due(check, "a^2, negative", withoutNames("a^2", -4, -2), 0, 3, 0, 1, 0, 1, 0, -1);
        Forms.due(check, "a^2, exact", withoutNames("a^2", 256, 512), 608, 32, 256, 1024, 256, 1024, 0, 384);
        Forms.due(check, "a^2, exact and negative", withoutNames("a^2", -512, -256), 608, 32, 256, 1024, 256, 1024, 0, -384);
        // 511 is one below 512, and 512 is not.
        Forms.due(check, "a^2 of a point", withoutNames("a^2", 16, 16), 1, 0, 1, 1, 1, 1);
        Forms.due(check, "a^2 of a lesser point", withoutNames("a^2", 15, 15), 0, 1, 0, 1, 0, 1);
    }

    @Says("the loose part 4 * |c| * e + r * r, divided by 512 and rounded up, plus the number of those of the center and the coefficients that had to be rounded")
    static void loosePartsOfSquares(Check check) {
        // 336 + 1 and 14113 have to be rounded.
        Forms.due(check, "0.33^2", withoutNames("0.33^2"), 27, 2, 27, 29, 27, 29);
        Forms.due(check, "(-0.33)^2", withoutNames("(-0.33)^2"), 27, 2, 27, 29, 27, 29);
        Forms.due(check, "(a^2)^2", withoutNames("(a^2)^2", 256, 512), 1782, 490, 256, 4096, 256, 4096, 0, 1824);
        Forms.due(check, "(-a^2)^2", withoutNames("(-a^2)^2", 256, 512), 1782, 490, 256, 4096, 256, 4096, 0, 1824);
        // 2 * c * c + r * r is 768, which is rounded, and 2 * c * a is 512, which is not.
        Forms.due(check, "a^2, 768", withoutNames("a^2", 0, 32), 1, 2, 0, 4, 0, 4, 0, 2);
        // They are 384 and 256; then 192 and 128, which are rounded.
        Forms.due(check, "a^2, 384", withoutNames("a^2", -8, 24), 0, 2, 0, 3, 0, 3, 0, 1);
        Forms.due(check, "a^2, 192", withoutNames("a^2", 0, 16), 0, 3, 0, 1, 0, 1);
        // The center and both coefficients are rounded; the radius is 2.
        Forms.due(check, "(a+b)^2", withoutNames("(a+b)^2", 2, 4, 2, 4), 0, 4, 0, 1, 0, 1);
        Forms.due(check, "a^2 of a point", withoutNames("a^2", 1, 1), 0, 1, 0, 1, 0, 1);
    }

    @Says("DIVIDE: MULTIPLY of x and the reciprocal of y.")
    static void quotients(Check check) {
        // The reciprocal is 320, and a loose part of 192.
        Forms.due(check, "1/a", withoutNames("1/a", 128, 512), 320, 192, 128, 512, 128, 512);
        Forms.due(check, "a/b", withoutNames("a/b", 0, 256, 128, 512), 160, 192, 0, 512, 0, 512, 0, 160);
        Forms.due(check, "1/a, negative", withoutNames("1/a", -512, -128), -320, 192, -512, -128, -512, -128);
        Forms.due(check, "1/a, uneven", withoutNames("1/a", 3, 7), 15604, 6242, 9362, 21846, 9362, 21846);
        Forms.due(check, "a/a", withoutNames("a/a", 256, 512), 288, 128, 128, 512, 128, 512, 0, 96);
        Forms.due(check, "0/a", withoutNames("0/a", 128, 512), 0, 0, 0, 0, 0, 0);
    }

    @Says("- ABSOLUTE: x if l is at least 0; otherwise NEGATE of x if u is at most 0;")
    static void absoluteValues(Check check) {
        form(check, "A(a)", over(1, 8), 4, 0, 1, 8, 1, 8, 0, 4);
        form(check, "A(a)", over(0, 8), 4, 0, 0, 8, 0, 8, 0, 4);
        form(check, "A(a)", over(-1, 8), 4, 0, 0, 8, 0, 8, 4, 4);
        form(check, "A(a)", over(-8, 1), 4, 0, 0, 8, 0, 8, 4, 4);
        form(check, "A(a)", over(-8, 0), 4, 0, 0, 8, 0, 8, 0, -4);
        form(check, "A(a)", over(-8, -1), 5, 0, 1, 8, 1, 8, 0, -4);
        form(check, "A(a)", over(0, 0), 0, 0, 0, 0, 0, 0);
    }

    @Says("- ABSOLUTE: x if l is at least 0; otherwise NEGATE of x if u is at most 0;")
    static void absoluteValuesByTheBestRange(Check check) {
        form(check, "A(a-a)", over(), 0, 0, -256, 256, 0, 0);
        form(check, "A(a-a-1)", over(), 256, 0, 0, 512, 256, 256);
        form(check, "A(a-a+0.5)", over(), 128, 0, -128, 384, 128, 128);
        form(check, "A(a-a-0.5)", over(), 128, 0, -128, 384, 128, 128);
        // The affine range of a * b is from -128, its plain one from 0.
        form(check, "A(a*b)", over(), 64, 0, 0, 256, 0, 256, 0, 64, 1, 64, 4, 64);
        form(check, "A(-a*b)", over(), 64, 0, 0, 256, 0, 256, 0, 64, 1, 64, 4, 64);
        form(check, "A(0.33)", over(), 84, 0, 84, 85, 84, 85, 4, 1);
    }

    @Says("Otherwise plain from the square root of 256 * l")
    static void roots(Check check) {
        Forms.due(check, "R(a)", withoutNames("R(a)"), 128, 128, 0, 256, 0, 256);
        Forms.due(check, "R(a), uneven", withoutNames("R(a)", 5, 7), 39, 4, 35, 43, 35, 43);
        Forms.due(check, "R(a) of a point", withoutNames("R(a)", 2, 2), 22, 1, 22, 23, 22, 23);
        Forms.due(check, "R(a) of a square", withoutNames("R(a)", 1024, 1024), 512, 0, 512, 512, 512, 512);
    }

    @Says("- LEAST: x if u is at most m; otherwise y if n is at most l;")
    static void leastIsOneOfBoth(Check check) {
        form(check, "L(a,b)", over(0, 255, 256, 512), 127, 0, 0, 255, 0, 255, 0, 128);
        form(check, "L(a,b)", over(0, 256, 256, 512), 128, 0, 0, 256, 0, 256, 0, 128);
        form(check, "L(a,b)", over(0, 257, 256, 512), 128, 0, 0, 257, 0, 257, 4, 129);
        form(check, "L(b,a)", over(0, 255, 256, 512), 127, 0, 0, 255, 0, 255, 0, 128);
        form(check, "L(b,a)", over(0, 256, 256, 512), 128, 0, 0, 256, 0, 256, 0, 128);
        form(check, "L(b,a)", over(0, 257, 256, 512), 128, 0, 0, 257, 0, 257, 4, 129);
        form(check, "L(0.33,a)", over(85, 256), 84, 0, 84, 85, 84, 85, 4, 1);
    }

    @Says("GREATEST: x if l is at least n; otherwise y if m is at least u;")
    static void greatestIsOneOfBoth(Check check) {
        form(check, "G(a,b)", over(0, 255, 256, 512), 384, 0, 256, 512, 256, 512, 1, 128);
        form(check, "G(a,b)", over(0, 256, 256, 512), 384, 0, 256, 512, 256, 512, 1, 128);
        form(check, "G(a,b)", over(0, 257, 256, 512), 384, 0, 256, 512, 256, 512, 4, 128);
        form(check, "G(b,a)", over(0, 255, 256, 512), 384, 0, 256, 512, 256, 512, 1, 128);
        form(check, "G(b,a)", over(0, 256, 256, 512), 384, 0, 256, 512, 256, 512, 1, 128);
        form(check, "G(b,a)", over(0, 257, 256, 512), 384, 0, 256, 512, 256, 512, 4, 128);
    }

    @Says("- LEAST: x if u is at most m; otherwise y if n is at most l;")
    static void leastByTheBestRanges(Check check) {
        // The best range of a - a is from 0 to 0, its plain one from -256 to 256; the affine range of a * b is from -128.
        form(check, "L(a-a,b)", over(), 0, 0, -256, 256, 0, 0);
        form(check, "L(b,a-a)", over(), 0, 0, -256, 256, 0, 0);
        form(check, "L(a-a,-b)", over(), -128, 0, -256, 0, -256, 0, 1, -128);
        form(check, "L(-b,a-a)", over(), -128, 0, -256, 0, -256, 0, 1, -128);
        form(check, "L(0,a*b)", over(), 0, 0, 0, 0, 0, 0);
        form(check, "L(a*b,0)", over(), 0, 0, 0, 0, 0, 0);
    }

    @Says("GREATEST: x if l is at least n; otherwise y if m is at least u;")
    static void greatestByTheBestRanges(Check check) {
        form(check, "G(a-a,-b)", over(), 0, 0, -256, 256, 0, 0);
        form(check, "G(-b,a-a)", over(), 0, 0, -256, 256, 0, 0);
        form(check, "G(a-a,b)", over(), 128, 0, 0, 256, 0, 256, 1, 128);
        form(check, "G(b,a-a)", over(), 128, 0, 0, 256, 0, 256, 1, 128);
        form(check, "G(0,-a*b)", over(), 0, 0, 0, 0, 0, 0);
        form(check, "G(-a*b,0)", over(), 0, 0, 0, 0, 0, 0);
    }

    @Says("- LEAST: x if u is at most m; otherwise y if n is at most l;")
    static void leastOfEqualPointsIsTheFirst(Check check) {
        form(check, "L(a-a,0)", over(), 0, 0, -256, 256, 0, 0);
        form(check, "L(0,a-a)", over(), 0, 0, 0, 0, 0, 0);
    }

    @Says("GREATEST: x if l is at least n; otherwise y if m is at least u;")
    static void greatestOfEqualPointsIsTheFirst(Check check) {
        form(check, "G(a-a,0)", over(), 0, 0, -256, 256, 0, 0);
        form(check, "G(0,a-a)", over(), 0, 0, 0, 0, 0, 0);
    }

    // ---- naming

    @Says("this loose part becomes the coefficient of a symbol of its own, and the loose part 0")
    static void named(Check check) {
        form(check, "a*b", over(3, 8, -8, -3), -1, 0, -1, 0, -1, 0, 0, -1, 4, 4);
        form(check, "a^2", over(2, 4), 0, 0, 0, 1, 0, 1, 4, 3);
        form(check, "R(a)", over(5, 7), 39, 0, 35, 43, 35, 43, 4, 4);
        form(check, "1/a", over(3, 7), 15604, 0, 9362, 21846, 9362, 21846, 4, 6242);
    }

    @Says("after each MULTIPLY, SQUARE, DIVIDE, ABSOLUTE, ROOT, LEAST and GREATEST whose result is not wild and has a loose part greater than 0")
    static void noNameBehindOtherSteps(Check check) {
        form(check, "0.33", over(), 84, 1, 84, 85, 84, 85);
        form(check, "0.33+0.33", over(), 168, 2, 168, 170, 168, 170);
        form(check, "0.33-0.67", over(), -87, 2, -88, -86, -88, -86);
        form(check, "-0.33", over(), -84, 1, -85, -84, -85, -84);
        form(check, "a+0.33", over(3, 3), 87, 1, 87, 88, 87, 88);
    }

    @Says("whose result is not wild and has a loose part greater than 0")
    static void noNameWithoutLoosePart(Check check) {
        // No symbol is taken for 1 * a, so the next one is the first.
        form(check, "1*a+b^2", over(), 224, 0, 0, 512, 0, 512, 0, 128, 1, 128, 4, 32);
        form(check, "A(a)+b^2", over(), 224, 0, 0, 512, 0, 512, 0, 128, 1, 128, 4, 32);
        form(check, "2^2+b^2", over(), 1120, 0, 1024, 1280, 1024, 1280, 1, 128, 4, 32);
        AffineRanges x = Calls.with("a^2+1*b");
        x.setSymbols(1);
        Forms.due(check, "a^2+1*b with one symbol", x, 224, 0, 0, 512, 0, 512, 0, 128, 1, 128, 4, 32);
    }

    @Says("The symbol is the lowest one of those that may be used, 4 to 3 + SYMBOLS, whose coefficient is 0 in all forms that were made and are not used yet, the result included.")
    static void lowestFreeSymbol(Check check) {
        form(check, "a^2+b^2+c^2+d^2", over(), 384, 0, 0, 1024, 0, 1024, 0, 128, 1, 128, 2, 128, 3, 128, 4, 32, 5, 32, 6, 32, 7, 32);
        // The result itself has symbol 4.
        form(check, "a^4", over(), 86, 0, 0, 256, 0, 256, 0, 96, 4, 24, 5, 50);
    }

    @Says("whose coefficient is 0 in all forms that were made and are not used yet, the result included")
    static void freeAgain(Check check) {
        // The form with symbol 4 is used, and its result has it no longer.
        form(check, "0*a^2+b^2", over(), 96, 0, 0, 256, 0, 256, 1, 128, 4, 32);
        // a * a is used up with symbol 4, and b * b stays with symbol 5, so 4 is the lowest for c * c.
        form(check, "L(a^2,b^2)+c^2", over(512, 1024), 192, 0, 0, 512, 0, 512, 1, 128, 2, 128, 4, 32, 5, 32);
        // The coefficient of symbol 4 has become 0 by a difference.
        form(check, "A(a^2-1)+b^2", over(-300, 300), 224, 0, 0, 512, 0, 512, 1, 128, 4, 128, 5, 32);
    }

    @Says("If there is none, the one is taken for which the sum of the absolute values of its coefficients in all these forms is least")
    static void leastWeight(Check check) {
        AffineRanges x = Calls.over(Calls.with("a^2+b^2+c^2"), 256, 768, 256, 512);
        x.setSymbols(2);
        Forms.due(check, "the second", x, 1856, 32, 512, 3584, 512, 3584, 0, 1024, 1, 384, 2, 128, 4, 128, 5, 32);
        x = Calls.over(Calls.with("b^2+a^2+c^2"), 256, 768, 256, 512);
        x.setSymbols(2);
        Forms.due(check, "the first", x, 1856, 32, 512, 3584, 512, 3584, 0, 1024, 1, 384, 2, 128, 4, 32, 5, 128);
    }

    @Says("the sum of the absolute values of its coefficients in all these forms is least")
    static void absoluteWeight(Check check) {
        AffineRanges x = Calls.over(Calls.with("b^2-a^2+c^2"), 256, 768, 256, 512);
        x.setSymbols(2);
        Forms.due(check, "a negative coefficient", x, 608 - 1152 + 96, 32, -2048, 1024, -2048, 1024, 0, -1024, 1, 384, 2, 128, 4, 32, 5, -128);
    }

    @Says("the sum of the absolute values of its coefficients in all these forms is least")
    static void sumOfWeights(Check check) {
        // b ^ 2 has 50 of symbol 4; a ^ 2 has 32 of symbol 5, and the square of its copy 24.
        AffineRanges x = Calls.over(Calls.with("b^2+(a^2)^3"), 0, 256, 0, 320);
        x.setSymbols(2);
        Forms.due(check, "b^2+(a^2)^3", x, 182, 50, 0, 656, 0, 656, 0, 79, 1, 200, 4, 128, 5, 19);
    }

    @Says("the lowest of several")
    static void lowestOfEqualWeights(Check check) {
        AffineRanges x = Calls.over(Calls.with("a^2+b^2+c^2"), 256, 512, 256, 512);
        x.setSymbols(2);
        Forms.due(check, "the first of two", x, 1312, 32, 512, 2304, 512, 2304, 0, 384, 1, 384, 2, 128, 4, 32, 5, 32);
        x = Calls.with("3*a^2+b^2+c^2+d^2");
        x.setSymbols(3);
        Forms.due(check, "the second of three", x, 576, 32, 0, 1536, 0, 1536, 0, 384, 1, 128, 2, 128, 3, 128, 4, 96, 5, 32, 6, 32);
    }

    @Says("before that it is condensed: in each of these forms, also in the result, the absolute value of its coefficient is added to the loose part, and the coefficient becomes 0")
    static void condensedInEachForm(Check check) {
        // -b ^ 2 has -32 of symbol 4, and 32 become its loose part; a ^ 2 * c has symbol 4 in the result, too.
        AffineRanges x = Calls.with("-b^2+a^2");
        x.setSymbols(1);
        Forms.due(check, "-b^2+a^2", x, 0, 32, -256, 256, -256, 256, 0, 128, 1, -128, 4, 32);
        x = Calls.with("c^2-b^2+a^2");
        x.setSymbols(1);
        Forms.due(check, "c^2-b^2+a^2", x, 96, 64, -256, 512, -256, 512, 0, 128, 1, -128, 2, 128, 4, 32);
    }

    @Says("(so all of the loose part that the result has then becomes the new coefficient)")
    static void condensedInTheResult(Check check) {
        AffineRanges x = Calls.with("a^4");
        x.setSymbols(1);
        Forms.due(check, "a^4", x, 86, 0, 0, 256, 0, 256, 0, 96, 4, 74);
        // The product has 12 of symbol 4, 25 of symbol 5, and a loose part of 85.
        x = Calls.over(Calls.with("a^4*c"), 0, 256, 0, 256, 0, 256);
        x.setSymbols(2);
        Forms.due(check, "a^4*c", x, 43, 0, 0, 256, 0, 256, 0, 48, 2, 43, 4, 97, 5, 25);
    }

    @Says("(With DIVIDE, the reciprocal by itself is not named.)")
    static void reciprocalIsNotNamed(Check check) {
        form(check, "a/b", over(0, 256, 128, 512), 160, 0, 0, 512, 0, 512, 0, 160, 4, 192);
        form(check, "1/a", over(128, 512), 320, 0, 128, 512, 128, 512, 4, 192);
        form(check, "0/a+b^2", over(128, 512), 96, 0, 0, 256, 0, 256, 1, 128, 4, 32);
        // If it were, b ^ 2 would lose its name to it.
        AffineRanges x = Calls.over(Calls.with("b^2+a/c"), 0, 256, 0, 256, 128, 512);
        x.setSymbols(2);
        Forms.due(check, "b^2+a/c", x, 256, 0, 0, 768, 0, 768, 0, 160, 1, 128, 4, 32, 5, 192);
    }
}
