/** Promise 15: dominant. */
final class Promise15DominantTest {
    private static final int NONE = -6;

    private Promise15DominantTest() {
    }

    private static void dominant(Check check, String text, int want, int... ends) {
        check.due("dominant of " + text, Calls.over(Calls.with(text), ends).dominant(0), want);
    }

    @Says("Returns the input whose symbol has the coefficient with the greatest absolute value in the form of an expression.")
    static void eachInput(Check check) {
        dominant(check, "a", 0);
        dominant(check, "b", 1);
        dominant(check, "c", 2);
        dominant(check, "d", 3);
        dominant(check, "2*a+b+c+d", 0);
        dominant(check, "a+2*b+c+d", 1);
        dominant(check, "a+b+2*c+d", 2);
        dominant(check, "a+b+c+2*d", 3);
        dominant(check, "a+b", 0, 0, 12, 0, 10);
        dominant(check, "a+b", 1, 0, 10, 0, 12);
    }

    @Says("the coefficient with the greatest absolute value")
    static void negativeCoefficients(Check check) {
        dominant(check, "-a", 0);
        dominant(check, "a-2*b", 1);
        dominant(check, "-2*a+b", 0);
        dominant(check, "c-3*d+2*b", 3);
    }

    @Says("Returns the input, the lowest of several")
    static void lowestOfSeveral(Check check) {
        dominant(check, "a+b", 0);
        dominant(check, "b+a", 0);
        dominant(check, "b+c+d", 1);
        dominant(check, "d+c", 2);
        dominant(check, "b-a", 0);
        dominant(check, "a-b", 0);
        dominant(check, "a+2*c+2*b", 1);
        dominant(check, "a+b", 0, 0, 11, 0, 12);
    }

    @Says("NONE if all these coefficients are 0")
    static void none(Check check) {
        dominant(check, "7", NONE);
        dominant(check, "a-a", NONE);
        dominant(check, "a", NONE, 5, 5);
        dominant(check, "a+b", NONE, 5, 5, -7, -7);
        dominant(check, "0*a", NONE);
        dominant(check, "a+b", 1, 5, 5, 0, 1);
    }

    @Says("NONE if all these coefficients are 0")
    static void otherSymbolsDoNotCount(Check check) {
        // R(a) has symbol 4 alone.
        dominant(check, "R(a)", NONE);
        dominant(check, "A(a-0.5)", NONE);
        dominant(check, "R(a)*99+b", 1);
        AffineRanges x = Calls.with("R(a)");
        x.setSymbols(0);
        check.due("dominant of a loose part", x.dominant(0), NONE);
    }

    @Says("NO_SUCH if there is no such expression")
    static void noSuchExpression(Check check) {
        AffineRanges x = Calls.with("a");
        for (int e = 1; e < 4; e++) check.due("dominant(" + e + ")", x.dominant(e), -1);
        for (int e : Calls.BAD_NUMBERS) check.due("dominant(" + e + ")", x.dominant(e), -1);
    }

    @Says("NOT_POSSIBLE if the form is wild.")
    static void wildForms(Check check) {
        dominant(check, "1/a", -5);
        dominant(check, "a+1/b", -5);
        dominant(check, "R(a-2)", -5);
        dominant(check, "a+b^4", -5, 0, 1, 0, 100000);
        dominant(check, "1/a", NONE, 1, 2);
    }

    @Says("is not an error; it is returned only if no error applies")
    static void errorsBeforeNone(Check check) {
        // All coefficients of a wild form without inputs are 0, and there is no expression 1.
        dominant(check, "1/0", -5);
        check.due("dominant(1)", Calls.with("7").dominant(1), -1);
    }

    @Says("A call that returns an error code changes nothing.")
    static void changesNothing(Check check) {
        Twins.changesNothing(check, "dominant(1)", -1, x -> x.dominant(1));
        Twins.changesNothing(check, "dominant(2)", -5, x -> x.dominant(2));
        Twins.changesNothing(check, "dominant(0)", 0, x -> x.dominant(0));
    }
}
