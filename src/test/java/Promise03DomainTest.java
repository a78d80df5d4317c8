/** Promise 3: domain. */
final class Promise03DomainTest {
    private Promise03DomainTest() {
    }

    @Says("- `side`: 0 for lo, 1 for hi")
    static void bothEnds(Check check) {
        AffineRanges x = Calls.over(new AffineRanges(), 1, 2, 3, 4, 5, 6, 7, 8);
        for (int i = 0; i < 8; i++) check.due("domain(" + i / 2 + ", " + i % 2 + ")", x.domain(i / 2, i % 2), 1000001 + i);
    }

    @Says("Returns the end plus 1000000")
    static void leastAndGreatestEnd(Check check) {
        AffineRanges x = Calls.over(new AffineRanges(), -100000, 100000, -1, -1, 0, 0);
        check.due("domain(0, 0)", x.domain(0, 0), 900000);
        check.due("domain(0, 1)", x.domain(0, 1), 1100000);
        check.due("domain(1, 0)", x.domain(1, 0), 999999);
        check.due("domain(1, 1)", x.domain(1, 1), 999999);
        check.due("domain(2, 1)", x.domain(2, 1), 1000000);
    }

    @Says("NO_SUCH if there is no such input")
    static void noSuchInput(Check check) {
        AffineRanges x = new AffineRanges();
        for (int input : Calls.BAD_NUMBERS) {
            check.due("domain(" + input + ", 0)", x.domain(input, 0), -1);
            check.due("domain(" + input + ", 1)", x.domain(input, 1), -1);
        }
    }

    @Says("BAD_VALUE if side is neither 0 nor 1.")
    static void noSuchSide(Check check) {
        AffineRanges x = new AffineRanges();
        int[] sides = {Integer.MIN_VALUE, -2, -1, 2, 3, 256, Integer.MAX_VALUE};
        for (int side : sides) {
            check.due("domain(0, " + side + ")", x.domain(0, side), -2);
            check.due("domain(3, " + side + ")", x.domain(3, side), -2);
        }
    }

    @Says("it names its errors in the order in which they are checked, and the first that applies is returned")
    static void noSuchInputFirst(Check check) {
        AffineRanges x = new AffineRanges();
        check.due("domain(4, 2)", x.domain(4, 2), -1);
        check.due("domain(-1, -1)", x.domain(-1, -1), -1);
    }

    @Says("A call that returns an error code changes nothing.")
    static void changesNothing(Check check) {
        Twins.changesNothing(check, "domain(4, 0)", -1, x -> x.domain(4, 0));
        Twins.changesNothing(check, "domain(0, 2)", -2, x -> x.domain(0, 2));
        Twins.changesNothing(check, "domain(0, 0)", 999700, x -> x.domain(0, 0));
    }
}
