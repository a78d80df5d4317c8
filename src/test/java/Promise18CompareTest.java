/** Promise 18: compare. */
final class Promise18CompareTest {
    private Promise18CompareTest() {
    }

    private static AffineRanges both(String first, String second, int... ends) {
        AffineRanges x = Calls.over(Calls.with(first), ends);
        Calls.load(x, 3, second);
        return x;
    }

    private static void compare(Check check, String first, String second, int want, int... ends) {
        check.due("compare of " + first + " and " + second, both(first, second, ends).compare(0, 3), want);
    }

    @Says("Returns 1 if the lower end of the best range is greater than 0")
    static void greater(Check check) {
        compare(check, "a", "0", 1, 1, 256);
        compare(check, "a", "0", 0, 0, 256);
        compare(check, "a", "0", 1, 1, 1);
        compare(check, "a+1/256", "a", 1);
        compare(check, "a", "b", 1, 6, 9, 3, 5);
        compare(check, "a", "b", 0, 5, 9, 3, 5);
    }

    @Says("2 if the upper end is less than 0")
    static void less(Check check) {
        compare(check, "a", "0", 2, -256, -1);
        compare(check, "a", "0", 0, -256, 0);
        compare(check, "a", "0", 2, -1, -1);
        compare(check, "a", "a+1/256", 2);
        compare(check, "a", "b", 2, 3, 5, 6, 9);
        compare(check, "a", "b", 0, 3, 5, 5, 9);
    }

    @Says("3 if both are 0, 0 otherwise")
    static void equal(Check check) {
        compare(check, "a", "a", 3);
        compare(check, "a+a", "2*a", 3);
        compare(check, "a", "0", 3, 0, 0);
        compare(check, "0", "0", 3);
        compare(check, "a", "b", 3, 5, 5, 5, 5);
        check.due("compare(0, 0)", Calls.with("a").compare(0, 0), 3);
    }

    @Says("3 if both are 0, 0 otherwise")
    static void otherwise(Check check) {
        compare(check, "a", "0", 0, 0, 1);
        compare(check, "a", "0", 0, -1, 0);
        compare(check, "a", "0", 0, -1, 1);
        compare(check, "a", "b", 0);
        compare(check, "0.33", "0.33", 0);
        check.due("compare(0, 0) of a^2", Calls.with("a^2").compare(0, 0), 0);
    }

    @Says("Returns 1 if the lower end of the best range is greater than 0")
    static void bestRangeOfTheDifference(Check check) {
        // The affine range is from 1 to 1, the plain one from -255 to 257.
        compare(check, "a+1/256", "a", 1);
        // The plain range is from 16 to 1024, the affine one from -376.
        compare(check, "a*b", "0", 1, 64, 512, 64, 512);
        compare(check, "0", "a*b", 2, 64, 512, 64, 512);
    }

    @Says("the steps of the first one, those of the second one, and SUBTRACT are evaluated together")
    static void firstMinusSecond(Check check) {
        AffineRanges x = both("a", "a+1");
        check.due("compare(0, 3)", x.compare(0, 3), 2);
        check.due("compare(3, 0)", x.compare(3, 0), 1);
    }

    @Says("the steps of the first one, those of the second one, and SUBTRACT are evaluated together")
    static void namesOfTheSecondBesideThoseOfTheFirst(Check check) {
        // If each had symbol 4, its coefficients would cancel each other out.
        compare(check, "a^2", "a^2", 0);
        compare(check, "a^2+0.25", "a^2", 0);
        compare(check, "a^2+0.26", "a^2", 1);
        compare(check, "R(a)", "R(a)", 0);
        AffineRanges x = both("a^2", "a^2");
        for (int symbols = 0; symbols <= 8; symbols++) {
            x.setSymbols(symbols);
            check.due(symbols + " symbols: compare(0, 3)", x.compare(0, 3), 0);
        }
    }

    @Says("the steps of the first one, those of the second one, and SUBTRACT are evaluated together")
    static void longestExpressions(Check check) {
        String text = "-" + "a^3*".repeat(11) + "d^3";
        AffineRanges x = both(text, text, 256, 256, 0, 0, 0, 0, 256, 256);
        check.due("steps", x.step(0, -1, 0), 60);
        check.due("compare(0, 3)", x.compare(0, 3), 3);
        String deep = "a+b*(".repeat(7) + "1+b^3" + ")".repeat(7);
        x = both(deep, deep, 256, 256, 0, 0);
        check.due("compare(0, 3)", x.compare(0, 3), 3);
    }

    @Says("NO_SUCH if there is no such expression")
    static void noSuchExpression(Check check) {
        AffineRanges x = Calls.with("a");
        for (int e = 1; e < 4; e++) {
            check.due("compare(0, " + e + ")", x.compare(0, e), -1);
            check.due("compare(" + e + ", 0)", x.compare(e, 0), -1);
            check.due("compare(" + e + ", " + e + ")", x.compare(e, e), -1);
        }
        for (int e : Calls.BAD_NUMBERS) {
            check.due("compare(0, " + e + ")", x.compare(0, e), -1);
            check.due("compare(" + e + ", 0)", x.compare(e, 0), -1);
        }
    }

    @Says("NOT_POSSIBLE if the form is wild.")
    static void oneIsWild(Check check) {
        compare(check, "1/a", "b", -5);
        compare(check, "b", "1/a", -5);
        compare(check, "1/a", "1/a", -5);
        compare(check, "1/a", "1/a", 3, 256, 256);
    }

    @Says("NOT_POSSIBLE if the form is wild.")
    static void differenceTooLarge(Check check) {
        AffineRanges x = both("a^2*b", "c", 80000, 80000, 10240, 10240, -1, -1);
        check.due("reason(0)", x.reason(0), 0);
        check.due("reason(3)", x.reason(3), 0);
        check.due("compare(0, 3)", x.compare(0, 3), -5);
        check.due("compare(3, 0)", x.compare(3, 0), -5);
        x.setDomain(2, 0, 0);
        check.due("compare(0, 3) with 0", x.compare(0, 3), 1);
        check.due("compare(3, 0) with 0", x.compare(3, 0), 2);
    }

    @Says("it names its errors in the order in which they are checked, and the first that applies is returned")
    static void orderOfErrors(Check check) {
        AffineRanges x = Calls.with("1/a");
        check.due("compare(0, 1)", x.compare(0, 1), -1);
        check.due("compare(1, 0)", x.compare(1, 0), -1);
        check.due("compare(0, 0)", x.compare(0, 0), -5);
    }

    @Says("A call that returns an error code changes nothing.")
    static void changesNothing(Check check) {
        Twins.changesNothing(check, "compare(1, 0)", -1, x -> x.compare(1, 0));
        Twins.changesNothing(check, "compare(0, 4)", -1, x -> x.compare(0, 4));
        Twins.changesNothing(check, "compare(2, 0)", -5, x -> x.compare(2, 0));
        Twins.changesNothing(check, "compare(3, 3)", 0, x -> x.compare(3, 3));
    }
}
