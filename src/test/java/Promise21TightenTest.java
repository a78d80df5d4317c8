/** Promise 21: tighten. */
final class Promise21TightenTest {
    private Promise21TightenTest() {
    }

    private static AffineRanges over(String text, int... ends) {
        return Calls.over(Calls.with(text), ends);
    }

    private static void tighten(Check check, AffineRanges x, int times, int side, long want) {
        check.due("tighten(0, " + times + ", " + side + ")", x.tighten(0, times, side), want);
    }

    @Says("There is a list of boxes with their forms, at first the whole box alone.")
    static void theWholeBoxAlone(Check check) {
        AffineRanges x = over("a-2*b+c*d", -5, 9, -6, 10, -700, 1100, -800, 1200);
        tighten(check, x, 0, 0, x.bound(0, 2, 0));
        tighten(check, x, 0, 1, x.bound(0, 2, 1));
        check.due("bound(0, 2, 0)", x.bound(0, 2, 0), -5 - 20 - 3438);
    }

    @Says("- `times`: 0 to 100")
    static void zeroTimes(Check check) {
        // The box alone.
        tighten(check, Calls.with("a*(1-a)"), 0, 1, 128);
        tighten(check, Calls.with("a*(1-a)"), 0, 0, 0);
        tighten(check, over("a*a", -256, 256), 0, 0, -256);
        check.due("tighten(0, -1, 0)", Calls.with("a").tighten(0, -1, 0), Calls.BAD_VALUE);
    }

    @Says("- `times`: 0 to 100")
    static void hundredTimes(Check check) {
        // Over each of the boxes of 100 / 256 the product is as wide as the box; each time halves one of them.
        AffineRanges x = over("a*b-b*a", 0, 25600, 0, 25600);
        long before = Long.MIN_VALUE;
        int better = 0;
        for (int times = 0; times <= 100; times++) {
            long bound = x.tighten(0, times, 0);
            check.that("tighten(0, " + times + ", 0) is " + bound + ", behind " + before, bound >= before && bound <= 0);
            if (bound > before) better++;
            before = bound;
        }
        check.that("it became better " + better + " times", better > 5);
        check.due("tighten(0, 101, 0)", x.tighten(0, 101, 0), Calls.BAD_VALUE);
    }

    @Says("BAD_VALUE if another argument is out of range")
    static void outOfRange(Check check) {
        AffineRanges x = Calls.with("a");
        int[] times = {Integer.MIN_VALUE, -2, -1, 101, 102, 200, Integer.MAX_VALUE};
        for (int t : times) check.due("tighten(0, " + t + ", 0)", x.tighten(0, t, 0), Calls.BAD_VALUE);
        int[] sides = {Integer.MIN_VALUE, -2, -1, 2, 3, Integer.MAX_VALUE};
        for (int side : sides) check.due("tighten(0, 1, " + side + ")", x.tighten(0, 1, side), Calls.BAD_VALUE);
    }

    @Says("as GONE plus the code: NO_SUCH if there is no such expression")
    static void noSuchExpression(Check check) {
        AffineRanges x = Calls.with("a");
        for (int e = 1; e < 4; e++) check.due("tighten(" + e + ", 0, 0)", x.tighten(e, 0, 0), Calls.NO_SUCH);
        for (int e : Calls.BAD_NUMBERS) check.due("tighten(" + e + ", 0, 0)", x.tighten(e, 0, 0), Calls.NO_SUCH);
    }

    @Says("it names its errors in the order in which they are checked, and the first that applies is returned")
    static void orderOfErrors(Check check) {
        AffineRanges x = Calls.with("1/a");
        check.due("tighten(1, 101, 2)", x.tighten(1, 101, 2), Calls.NO_SUCH);
        check.due("tighten(0, 101, 0)", x.tighten(0, 101, 0), Calls.BAD_VALUE);
        check.due("tighten(0, 0, 2)", x.tighten(0, 0, 2), Calls.BAD_VALUE);
        check.due("tighten(0, 0, 0)", x.tighten(0, 0, 0), Calls.NOT_POSSIBLE);
    }

    @Says("A call that returns an error code changes nothing.")
    static void changesNothing(Check check) {
        Twins.changesNothing(check, "tighten(1, 0, 0)", Calls.NO_SUCH, x -> x.tighten(1, 0, 0));
        Twins.changesNothing(check, "tighten(0, 101, 0)", Calls.BAD_VALUE, x -> x.tighten(0, 101, 0));
        Twins.changesNothing(check, "tighten(0, 0, 2)", Calls.BAD_VALUE, x -> x.tighten(0, 0, 2));
        Twins.changesNothing(check, "tighten(2, 9, 0)", Calls.NOT_POSSIBLE, x -> x.tighten(2, 9, 0));
        // R(b) - d is from 22 + 6 to 152 + 7, and that is what it stays.
        Twins.changesNothing(check, "tighten(3, 100, 1)", 159, x -> x.tighten(3, 100, 1));
    }

    @Says("Returns the least lower end (or greatest upper end) of the best ranges of all boxes in the list")
    static void bothSides(Check check) {
        AffineRanges x = over("a", -5, 9);
        for (int times = 0; times <= 100; times += 20) {
            tighten(check, x, times, 0, -5);
            tighten(check, x, times, 1, 9);
        }
        x = over("a*a", -256, 256);
        tighten(check, x, 1, 0, 0);
        tighten(check, x, 1, 1, 256);
    }

    @Says("Returns the least lower end (or greatest upper end) of the best ranges of all boxes in the list")
    static void ofAllBoxes(Check check) {
        // The worst box is split, and its parts are better than another box then.
        AffineRanges x = Calls.with("a*(1-a)");
        long[] uppers = {128, 96, 96, 72};
        for (int times = 0; times < 4; times++) tighten(check, x, times, 1, uppers[times]);
    }

    @Says("of all boxes that are wild, or, if there is none, that have the least lower end (side 0), or the greatest upper end (side 1), of the best range, the first one in the list is taken")
    static void wildBoxesFirst(Check check) {
        // The divisor is (a - 1) ^ 2 + 1/2: over 0 to 512 and over both halves it may be 0, over the quarters it is from 160, 96, 96 and 160.
        AffineRanges x = over("1/(a*(a-2)+1.5)", 0, 512, 0, 0, 0, 0, 0, 0);
        tighten(check, x, 0, 1, Calls.NOT_POSSIBLE);
        tighten(check, x, 1, 1, Calls.NOT_POSSIBLE);
        tighten(check, x, 2, 1, Calls.NOT_POSSIBLE);
        tighten(check, x, 3, 1, 683);
    }

    @Says("NOT_POSSIBLE if a box in the list is wild.")
    static void wildToTheEnd(Check check) {
        AffineRanges x = over("1/a", 0, 256);
        for (int times = 0; times <= 100; times += 10) {
            tighten(check, x, times, 0, Calls.NOT_POSSIBLE);
            tighten(check, x, times, 1, Calls.NOT_POSSIBLE);
        }
        tighten(check, Calls.with("1/0"), 100, 0, Calls.NOT_POSSIBLE);
        tighten(check, over("1/a", 0, 0, 0, 0, 0, 0, 0, 0), 100, 1, Calls.NOT_POSSIBLE);
    }

    @Says("NOT_POSSIBLE if a box in the list is wild.")
    static void oneWildBox(Check check) {
        // Over 0 to 1 it is wild, and 1 to 2 is not; 0 is wild at the end.
        AffineRanges x = over("1/a", 0, 2, 0, 0, 0, 0, 0, 0);
        for (int times = 0; times < 5; times++) tighten(check, x, times, 1, Calls.NOT_POSSIBLE);
    }

    @Says("if it can be split, it is replaced by its first part, and its second part is appended to the list")
    static void firstOfEqualBoxes(Check check) {
        // Both halves have the same upper end 96. The first one is split first, and better is only the third time.
        AffineRanges x = Calls.with("a*(1-a)");
        tighten(check, x, 2, 1, 96);
        tighten(check, x, 3, 1, 72);
    }

    @Says("if it can be split, it is replaced by its first part, and its second part is appended to the list")
    static void eachInputIsSplit(Check check) {
        String[] texts = {"a*(1-a)", "b*(1-b)", "c*(1-c)", "d*(1-d)"};
        long[] uppers = {128, 96, 96, 72};
        for (int input = 0; input < 4; input++) {
            AffineRanges x = over(texts[input], 7, 7, 7, 7, 7, 7, 7, 7);
            x.setDomain(input, 0, 256);
            for (int times = 0; times < 4; times++) tighten(check, x, times, 1, uppers[times]);
        }
    }

    @Says("of all boxes that are wild, or, if there is none, that have the least lower end (side 0), or the greatest upper end (side 1), of the best range, the first one in the list is taken")
    static void theWorstBoxIsSplitByItsOwnForm(Check check) {
        // The coefficient of a is 0 over its whole domain, so b is split until it is 256 alone; then a is the widest.
        AffineRanges x = over("9*b+a*(1-a)", 0, 256, 0, 256, 0, 0, 0, 0);
        for (int times = 0; times < 10; times++) tighten(check, x, times, 1, 9 * 256 + 128);
        tighten(check, x, 10, 1, 9 * 255 + 128);
        x = over("-9*b-a*(1-a)", 0, 256, 0, 256, 0, 0, 0, 0);
        for (int times = 0; times < 10; times++) tighten(check, x, times, 0, -9 * 256 - 128);
        tighten(check, x, 10, 0, -9 * 255 - 128);
    }

    @Says("if it cannot, this ends")
    static void pointsEndIt(Check check) {
        AffineRanges x = over("a", 5, 5, 5, 5, 5, 5, 5, 5);
        tighten(check, x, 1, 0, 5);
        tighten(check, x, 100, 1, 5);
        // Of 0, 1 and 2 the worst is a point after some times, and the others stay as they are.
        x = over("256*a-a*a*128", 0, 2, 0, 0, 0, 0, 0, 0);
        tighten(check, x, 100, 1, 512);
        tighten(check, x, 100, 0, 0);
    }

    @Says("Tightens a bound of an expression.")
    static void theBoxStays(Check check) {
        AffineRanges x = over("a*a", -256, 256);
        tighten(check, x, 9, 0, 0);
        check.due("domain(0, 0)", x.domain(0, 0), 999744);
        check.due("bound(0, 2, 0)", x.bound(0, 2, 0), -256);
        tighten(check, x, 0, 0, -256);
        check.due("proof(0)", x.proof(0), Calls.NONE);
    }
}
