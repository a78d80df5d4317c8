/** Promise 9: step. */
final class Promise09StepTest {
    private Promise09StepTest() {
    }

    private static void steps(Check check, String text, int... kinds) {
        AffineRanges x = Calls.with(text);
        check.due("number of steps of " + text, x.step(0, -1, 0), kinds.length);
        for (int i = 0; i < kinds.length; i++) check.due("step " + i + " of " + text, x.step(0, i, 0), kinds[i]);
    }

    @Says("- `step`: the step; -1 for the number of steps")
    static void numberOfSteps(Check check) {
        check.due("step(0, -1, 0) of a", Calls.with("a").step(0, -1, 0), 1);
        check.due("step(0, -1, 0) of a+b", Calls.with("a+b").step(0, -1, 0), 3);
        check.due("step(0, -1, 1) of a+b", Calls.with("a+b").step(0, -1, 1), 3);
        check.due("step(0, -1, 1) of 7", Calls.with("7").step(0, -1, 1), 1);
    }

    @Says("NO_SUCH if there is no such expression or step")
    static void firstAndLastStep(Check check) {
        AffineRanges x = Calls.with("a-2.5");
        check.due("step(0, 0, 0)", x.step(0, 0, 0), 1);
        check.due("step(0, 2, 0)", x.step(0, 2, 0), 6);
        int[] wrong = {Integer.MIN_VALUE, -3, -2, 3, 4, 59, 60, 61, 256, Integer.MAX_VALUE};
        for (int step : wrong) {
            check.due("step(0, " + step + ", 0)", x.step(0, step, 0), -1);
            check.due("step(0, " + step + ", 1)", x.step(0, step, 1), -1);
        }
    }

    @Says("NO_SUCH if there is no such expression or step")
    static void noSuchExpression(Check check) {
        AffineRanges x = Calls.with("a");
        check.due("step(1, 0, 0)", x.step(1, 0, 0), -1);
        check.due("step(3, -1, 0)", x.step(3, -1, 0), -1);
        for (int e : Calls.BAD_NUMBERS) {
            check.due("step(" + e + ", 0, 0)", x.step(e, 0, 0), -1);
            check.due("step(" + e + ", -1, 0)", x.step(e, -1, 0), -1);
        }
    }

    @Says("BAD_VALUE if what is neither 0 nor 1.")
    static void noSuchProperty(Check check) {
        AffineRanges x = Calls.with("a-2.5");
        int[] wrong = {Integer.MIN_VALUE, -2, -1, 2, 3, Integer.MAX_VALUE};
        for (int what : wrong) {
            for (int step = -1; step < 3; step++) check.due("step(0, " + step + ", " + what + ")", x.step(0, step, what), -2);
        }
    }

    @Says("it names its errors in the order in which they are checked, and the first that applies is returned")
    static void noSuchFirst(Check check) {
        AffineRanges x = Calls.with("a");
        check.due("step(1, 0, 2)", x.step(1, 0, 2), -1);
        check.due("step(4, 0, -1)", x.step(4, 0, -1), -1);
        check.due("step(0, 1, 2)", x.step(0, 1, 2), -1);
        check.due("step(0, -2, 2)", x.step(0, -2, 2), -1);
    }

    @Says("NONE if a value is asked of another step than a number")
    static void valueOfAnotherStep(Check check) {
        AffineRanges x = Calls.with("L(G(A(R(-a)),b-1),c^3*d/2+d^2)");
        int[] kinds = {1, 7, 13, 12, 2, 0, 6, 15, 3, 8, 10, 9, 4, 9, 0, 11, 4, 10, 5, 14};
        check.due("steps", x.step(0, -1, 0), kinds.length);
        for (int i = 0; i < kinds.length; i++) {
            check.due("step(0, " + i + ", 0)", x.step(0, i, 0), kinds[i]);
            int value = i == 5 ? 100 : i == 14 ? 200 : -6;
            check.due("step(0, " + i + ", 1)", x.step(0, i, 1), value);
        }
    }

    @Says("is not an error; it is returned only if no error applies")
    static void noneOnlyWithoutError(Check check) {
        AffineRanges x = Calls.with("a");
        check.due("step(0, 0, 1)", x.step(0, 0, 1), -6);
        check.due("step(0, 0, 2)", x.step(0, 0, 2), -2);
        check.due("step(0, 1, 1)", x.step(0, 1, 1), -1);
        check.due("step(1, 0, 1)", x.step(1, 0, 1), -1);
    }

    @Says("1 for the value of a number in hundredths")
    static void leastAndGreatestValue(Check check) {
        String[] texts = {"0", "0.0", "0.00", "0.01", "0.1", "0.10", "0.99", "1", "1.0", "9.9", "10", "99.99", "100", "999", "999.9", "999.99"};
        int[] values = {0, 0, 0, 1, 10, 10, 99, 100, 100, 990, 1000, 9999, 10000, 99900, 99990, 99999};
        for (int i = 0; i < texts.length; i++) {
            check.due("value of " + texts[i], Calls.with(texts[i]).step(0, 0, 1), values[i]);
            check.due("kind of " + texts[i], Calls.with(texts[i]).step(0, 0, 0), 0);
            check.due("value of a*" + texts[i], Calls.with("a*" + texts[i]).step(0, 1, 1), values[i]);
        }
    }

    @Says("NUMBER to GREATEST (1 to 4 for the inputs 0 to 3)")
    static void allKinds(Check check) {
        steps(check, "7", 0);
        steps(check, "a", 1);
        steps(check, "b", 2);
        steps(check, "c", 3);
        steps(check, "d", 4);
        steps(check, "a+b", 1, 2, 5);
        steps(check, "a-b", 1, 2, 6);
        steps(check, "-b", 2, 7);
        steps(check, "a*b", 1, 2, 9);
        steps(check, "a^2", 1, 10);
        steps(check, "a/b", 1, 2, 11);
        steps(check, "A(a)", 1, 12);
        steps(check, "R(a)", 1, 13);
        steps(check, "L(a,b)", 1, 2, 14);
        steps(check, "G(a,b)", 1, 2, 15);
    }

    @Says("first those of the first operand, then those of the second one, then the operation itself")
    static void orderOfSteps(Check check) {
        steps(check, "a-b-c", 1, 2, 6, 3, 6);
        steps(check, "a-(b-c)", 1, 2, 3, 6, 6);
        steps(check, "a/b/c", 1, 2, 11, 3, 11);
        steps(check, "a/(b/c)", 1, 2, 3, 11, 11);
        steps(check, "a+b*c", 1, 2, 3, 9, 5);
        steps(check, "a*b+c", 1, 2, 9, 3, 5);
        steps(check, "(a+b)*c", 1, 2, 5, 3, 9);
        steps(check, "a*b-c/d+1", 1, 2, 9, 3, 4, 11, 6, 0, 5);
        steps(check, "L(a+b,c*d)", 1, 2, 5, 3, 4, 9, 14);
        steps(check, "G(L(a,b),R(c))/A(d)", 1, 2, 14, 3, 13, 15, 4, 12, 11);
        steps(check, "a*b^2", 1, 2, 10, 9);
    }

    @Says("A number or an input is a step; so is each operation.")
    static void bracketsAreNoSteps(Check check) {
        steps(check, "(a)", 1);
        steps(check, "((((7))))", 0);
        steps(check, "((a)+((b)))", 1, 2, 5);
        steps(check, "A((a))", 1, 12);
    }

    @Says("A \"-\" before the first term of an expression is a NEGATE of this term.")
    static void minusOfTheFirstTerm(Check check) {
        steps(check, "-a", 1, 7);
        steps(check, "-a*b", 1, 2, 9, 7);
        steps(check, "-a/b*c", 1, 2, 11, 3, 9, 7);
        steps(check, "-a^2", 1, 10, 7);
        steps(check, "-a+b", 1, 7, 2, 5);
        steps(check, "-a-b*c", 1, 7, 2, 3, 9, 6);
        steps(check, "-7", 0, 7);
        steps(check, "(-a)*b", 1, 7, 2, 9);
        steps(check, "(-a)^2", 1, 7, 10);
        steps(check, "-(-a)", 1, 7, 7);
        steps(check, "L(-a,-b*c)", 1, 7, 2, 3, 9, 7, 14);
        steps(check, "A(-a)", 1, 7, 12);
        steps(check, "a-(-b+c)", 1, 2, 7, 3, 5, 6);
    }

    @Says("x ^ 2 is SQUARE")
    static void secondPower(Check check) {
        steps(check, "a^2", 1, 10);
        steps(check, "(a+b)^2", 1, 2, 5, 10);
        steps(check, "A(a)^2", 1, 12, 10);
        steps(check, "2.5^2", 0, 10);
    }

    @Says("x ^ 3 is a COPY of x, SQUARE of the copy, and MULTIPLY of x and this square")
    static void thirdPower(Check check) {
        steps(check, "a^3", 1, 8, 10, 9);
        steps(check, "(a+b)^3", 1, 2, 5, 8, 10, 9);
        steps(check, "(a^3)^3", 1, 8, 10, 9, 8, 10, 9);
        steps(check, "L(a,b)^3-c", 1, 2, 14, 8, 10, 9, 3, 6);
    }

    @Says("x ^ 4 is SQUARE, and SQUARE again")
    static void fourthPower(Check check) {
        steps(check, "a^4", 1, 10, 10);
        steps(check, "R(a)^4*b", 1, 13, 10, 10, 2, 9);
    }

    @Says("A call that returns an error code changes nothing.")
    static void changesNothing(Check check) {
        Twins.changesNothing(check, "step(1, 0, 0)", -1, x -> x.step(1, 0, 0));
        Twins.changesNothing(check, "step(0, 60, 0)", -1, x -> x.step(0, 60, 0));
        Twins.changesNothing(check, "step(0, 0, 2)", -2, x -> x.step(0, 0, 2));
        Twins.changesNothing(check, "step(0, 0, 1)", -6, x -> x.step(0, 0, 1));
    }
}
