/** Promise 22: roots. */
final class Promise22RootsTest {
    private Promise22RootsTest() {
    }

    private static void roots(Check check, String text, int input, int n, int want, int... ends) {
        check.due("roots of " + text + " by " + input + " in " + n, Calls.over(Calls.with(text), ends).roots(0, input, n), want);
    }

    @Says("- `n`: 1 to 16")
    static void fewestAndMostParts(Check check) {
        roots(check, "a-0.5", 0, 1, 1);
        roots(check, "a+0.5", 0, 1, 0);
        roots(check, "a-0.5", 0, 16, 0x180);
        roots(check, "a", 0, 16, 1);
        roots(check, "a-1", 0, 16, 0x8000);
        roots(check, "0", 0, 16, 0xffff);
    }

    @Says("BAD_VALUE if n is out of range.")
    static void outOfRange(Check check) {
        AffineRanges x = Calls.with("a");
        int[] wrong = {Integer.MIN_VALUE, -16, -1, 0, 17, 18, 32, Integer.MAX_VALUE};
        for (int n : wrong) check.due("roots(0, 0, " + n + ")", x.roots(0, 0, n), -2);
    }

    @Says("NO_SUCH if there is no such expression or input")
    static void noSuchExpressionOrInput(Check check) {
        AffineRanges x = Calls.with("a");
        for (int e = 1; e < 4; e++) check.due("roots(" + e + ", 0, 1)", x.roots(e, 0, 1), -1);
        for (int i : Calls.BAD_NUMBERS) {
            check.due("roots(" + i + ", 0, 1)", x.roots(i, 0, 1), -1);
            check.due("roots(0, " + i + ", 1)", x.roots(0, i, 1), -1);
        }
    }

    @Says("it names its errors in the order in which they are checked, and the first that applies is returned")
    static void orderOfErrors(Check check) {
        AffineRanges x = Calls.with("a");
        check.due("roots(1, 0, 0)", x.roots(1, 0, 0), -1);
        check.due("roots(0, 4, 17)", x.roots(0, 4, 17), -1);
        check.due("roots(0, -1, 0)", x.roots(0, -1, 0), -1);
        check.due("roots(0, 3, 17)", x.roots(0, 3, 17), -2);
    }

    @Says("A call that returns an error code changes nothing.")
    static void changesNothing(Check check) {
        Twins.changesNothing(check, "roots(1, 0, 1)", -1, x -> x.roots(1, 0, 1));
        Twins.changesNothing(check, "roots(0, 4, 1)", -1, x -> x.roots(0, 4, 1));
        Twins.changesNothing(check, "roots(0, 0, 0)", -2, x -> x.roots(0, 0, 0));
        Twins.changesNothing(check, "roots(0, 0, 17)", -2, x -> x.roots(0, 0, 17));
        Twins.changesNothing(check, "roots(2, 0, 3)", 7, x -> x.roots(2, 0, 3));
    }

    @Says("part k is from lo + w * k / n to lo + w * (k + 1) / n, with w as hi - lo (rounded down)")
    static void partsAreRoundedDown(Check check) {
        // 0 to 85, 85 to 170, 170 to 256
        roots(check, "a-85/256", 0, 3, 3);
        roots(check, "a-84/256", 0, 3, 1);
        roots(check, "a-86/256", 0, 3, 2);
        roots(check, "a-170/256", 0, 3, 6);
        roots(check, "a-171/256", 0, 3, 4);
        // -5 to -2, -2 to 1, 1 to 5: what is added to lo is rounded, and not the sum.
        roots(check, "a", 0, 3, 2, -5, 5);
        roots(check, "a+2/256", 0, 3, 3, -5, 5);
        roots(check, "a-1/256", 0, 3, 6, -5, 5);
        roots(check, "a+1/256", 0, 3, 2, -5, 5);
        roots(check, "a+3/256", 0, 3, 1, -5, 5);
        roots(check, "a-2/256", 0, 3, 4, -5, 5);
    }

    @Says("part k is from lo + w * k / n to lo + w * (k + 1) / n, with w as hi - lo (rounded down)")
    static void moreNumbersOfPartsThanOfTheDomain(Check check) {
        // -1 to -1, -1 to 0, 0 to 0, 0 to 1
        roots(check, "a", 0, 4, 14, -1, 1);
        roots(check, "a-1/256", 0, 4, 8, -1, 1);
        roots(check, "a+1/256", 0, 4, 3, -1, 1);
        roots(check, "a", 0, 16, 0xffff, 0, 0);
        roots(check, "a", 0, 16, 0, 1, 1);
        // 15 parts from 0 to 0, and one from 0 to 1
        roots(check, "a", 0, 16, 0xffff, 0, 1);
        roots(check, "a-1/256", 0, 16, 0x8000, 0, 1);
    }

    @Says("part k is from lo + w * k / n to lo + w * (k + 1) / n, with w as hi - lo (rounded down)")
    static void widestDomain(Check check) {
        roots(check, "a", 0, 16, 0x180, -100000, 100000);
        roots(check, "a-1", 0, 16, 0, -100000, 0);
        roots(check, "d", 3, 1, 1, 0, 0, 0, 0, 0, 0, -100000, 100000);
        roots(check, "d-390", 3, 16, 0x8000, 0, 0, 0, 0, 0, 0, -100000, 100000);
    }

    @Says("Returns the set of the parts, as a bit mask, over which (with the other domains as they are) the form is wild, or 0 is within its best range")
    static void zeroAtTheEndsOfTheBestRange(Check check) {
        roots(check, "a", 0, 1, 1, 0, 5);
        roots(check, "a", 0, 1, 0, 1, 5);
        roots(check, "a", 0, 1, 1, -5, 0);
        roots(check, "a", 0, 1, 0, -5, -1);
        roots(check, "a", 0, 1, 1, -1, 1);
        roots(check, "a", 0, 2, 3, -6, 6);
        // The plain range of a - a + 1 has 0, the best one has not; the affine one of a * b has 0.
        roots(check, "a-a+1", 0, 1, 0);
        roots(check, "a*b", 0, 1, 0, 64, 512, 64, 512);
    }

    @Says("over which (with the other domains as they are) the form is wild")
    static void wildParts(Check check) {
        roots(check, "1/a", 0, 2, 1);
        roots(check, "1/a", 0, 4, 6, -256, 256);
        roots(check, "1/a", 1, 5, 31);
        roots(check, "R(a)-99", 0, 4, 1, -256, 256);
        roots(check, "R(a)-99", 0, 4, 3, -257, 255);
    }

    @Says("(with the other domains as they are)")
    static void otherDomains(Check check) {
        roots(check, "a-b", 0, 2, 3);
        roots(check, "a-b", 0, 2, 2, 0, 256, 129, 256);
        roots(check, "a-b", 0, 2, 1, 0, 256, -9, 127);
        roots(check, "a-b", 1, 2, 2, 129, 256, 0, 256);
        roots(check, "a-0.5", 1, 16, 0xffff);
        roots(check, "a-2", 3, 16, 0);
    }

    @Says("Isolates the values of an input for which an expression can be 0.")
    static void theBoxStays(Check check) {
        AffineRanges x = Calls.over(Calls.with("a-c"), -9, 99, 0, 0, 5, 7);
        x.roots(0, 0, 16);
        x.roots(0, 2, 3);
        check.due("domain(0, 0)", x.domain(0, 0), 999991);
        check.due("domain(0, 1)", x.domain(0, 1), 1000099);
        check.due("domain(2, 0)", x.domain(2, 0), 1000005);
        check.due("bound(0, 1, 1)", x.bound(0, 1, 1), 94);
    }
}
