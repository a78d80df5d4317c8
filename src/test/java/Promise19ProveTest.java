/** Promise 19: prove; and how a box is split. */
final class Promise19ProveTest {
    private static final int PROVED = 1;
    private static final int REFUTED = 2;
    private static final int OPEN = 3;

    private Promise19ProveTest() {
    }

    /** What prove() finds, then the number of boxes, and the ends lo of the last box and its ends hi, as far as they are told. */
    private static void prove(Check check, AffineRanges x, int limit, int most, int want, long... proof) {
        check.due("prove(0, " + limit + ", " + most + ")", x.prove(0, limit, most), want);
        for (int i = 0; i < proof.length; i++) check.due("proof(" + i + ") behind prove(0, " + limit + ", " + most + ")", x.proof(i), proof[i]);
    }

    private static AffineRanges over(String text, int... ends) {
        return Calls.over(Calls.with(text), ends);
    }

    // ---- the call itself

    @Says("- `limit`: -1000000 to 1000000")
    static void leastAndGreatestLimit(Check check) {
        AffineRanges x = Calls.with("a");
        prove(check, x, -1000000, 1, PROVED, 1);
        prove(check, x, 1000000, 1, REFUTED, 1);
        int[] wrong = {Integer.MIN_VALUE, -1000001, 1000001, Integer.MAX_VALUE};
        for (int limit : wrong) check.due("prove(0, " + limit + ", 1)", x.prove(0, limit, 1), -2);
    }

    @Says("- `most`: 1 to 200")
    static void leastAndGreatestMost(Check check) {
        AffineRanges x = Calls.with("a");
        prove(check, x, -1, 1, PROVED, 1);
        prove(check, x, -1, 200, PROVED, 1);
        int[] wrong = {Integer.MIN_VALUE, -1, 0, 201, 1000, Integer.MAX_VALUE};
        for (int most : wrong) check.due("prove(0, -1, " + most + ")", x.prove(0, -1, most), -2);
    }

    @Says("NO_SUCH if there is no such expression")
    static void noSuchExpression(Check check) {
        AffineRanges x = Calls.with("a");
        for (int e = 1; e < 4; e++) check.due("prove(" + e + ", 0, 1)", x.prove(e, 0, 1), -1);
        for (int e : Calls.BAD_NUMBERS) check.due("prove(" + e + ", 0, 1)", x.prove(e, 0, 1), -1);
    }

    @Says("BAD_VALUE if another argument is out of range.")
    static void outOfRange(Check check) {
        AffineRanges x = Calls.with("a");
        check.due("prove(0, 1000001, 200)", x.prove(0, 1000001, 200), -2);
        check.due("prove(0, -1000001, 200)", x.prove(0, -1000001, 200), -2);
        check.due("prove(0, 1000000, 201)", x.prove(0, 1000000, 201), -2);
        check.due("prove(0, -1000000, 0)", x.prove(0, -1000000, 0), -2);
        check.due("prove(0, 1000000, 200)", x.prove(0, 1000000, 200), REFUTED);
        check.due("prove(0, -1000000, 1)", x.prove(0, -1000000, 1), PROVED);
    }

    @Says("There is a list of boxes, at first the whole box alone.")
    static void theWholeBoxFirst(Check check) {
        AffineRanges x = over("a", -5, 9, -6, 10, -7, 11, -8, 12);
        prove(check, x, -6, 1, PROVED, 1, -5, -6, -7, -8, 9, 10, 11, 12);
    }

    @Says("it names its errors in the order in which they are checked, and the first that applies is returned")
    static void orderOfErrors(Check check) {
        AffineRanges x = Calls.with("a");
        check.due("prove(1, 1000001, 0)", x.prove(1, 1000001, 0), -1);
        check.due("prove(4, 0, 201)", x.prove(4, 0, 201), -1);
        check.due("prove(0, 1000001, 0)", x.prove(0, 1000001, 0), -2);
        check.due("prove(0, 0, 0)", x.prove(0, 0, 0), -2);
    }

    @Says("A call that returns an error code changes nothing.")
    static void refusedCallChangesNothing(Check check) {
        Twins.changesNothing(check, "prove(1, 0, 1)", -1, x -> x.prove(1, 0, 1));
        Twins.changesNothing(check, "prove(0, 1000001, 1)", -2, x -> x.prove(0, 1000001, 1));
        Twins.changesNothing(check, "prove(0, -1000001, 1)", -2, x -> x.prove(0, -1000001, 1));
        Twins.changesNothing(check, "prove(0, 0, 0)", -2, x -> x.prove(0, 0, 0));
        Twins.changesNothing(check, "prove(0, 0, 201)", -2, x -> x.prove(0, 0, 201));
    }

    @Says("Tries to prove that an expression is greater than a limit everywhere in the box.")
    static void theBoxStays(Check check) {
        AffineRanges x = over("a*a", -256, 256);
        prove(check, x, -1, 9, PROVED, 3);
        check.due("domain(0, 0)", x.domain(0, 0), 999744);
        check.due("domain(0, 1)", x.domain(0, 1), 1000256);
        check.due("bound(0, 2, 0)", x.bound(0, 2, 0), -256);
    }

    // ---- what is found

    @Says("if its form is not wild and the lower end of its best range is greater than limit, it is done")
    static void lowerEndAboutTheLimit(Check check) {
        AffineRanges x = over("a", 5, 5, 0, 0, 0, 0, 0, 0);
        prove(check, x, 4, 9, PROVED, 1);
        prove(check, x, 5, 9, REFUTED, 1);
        x = over("a", 0, 256);
        prove(check, x, -1, 1, PROVED, 1);
        prove(check, x, 0, 1, OPEN, 1);
        prove(check, over("-a", 0, 256), -257, 1, PROVED, 1);
        prove(check, over("-a", 0, 256), -256, 1, OPEN, 1);
    }

    @Says("if its form is not wild and the lower end of its best range is greater than limit, it is done")
    static void lowerEndOfTheBestRange(Check check) {
        // The affine range of a - a is from 0, its plain one from -256; a * b is the other way round.
        prove(check, Calls.with("a-a"), -1, 1, PROVED, 1);
        prove(check, Calls.with("a*b"), -1, 1, PROVED, 1);
        prove(check, Calls.with("a*b"), 0, 1, OPEN, 1);
    }

    @Says("and the upper end of its best range is at most limit, the result is REFUTED")
    static void upperEndAtTheMiddleAboutTheLimit(Check check) {
        AffineRanges x = Calls.with("a");
        prove(check, x, 128, 1, REFUTED, 1, 0, 0, 0, 0, 256, 256, 256, 256);
        prove(check, x, 127, 1, OPEN, 1, 0, 0, 0, 0, 256, 256, 256, 256);
        // At a point 0.33 is from 84 to 85.
        x = Calls.with("0.33+0*a");
        prove(check, x, 85, 1, REFUTED, 1);
        prove(check, x, 84, 1, OPEN, 1);
        prove(check, x, 83, 1, PROVED, 1);
        // 0.33 - 0.33 is plain from -1 to 1, affine from -2 to 2.
        prove(check, Calls.with("0.33-0.33"), 1, 1, REFUTED, 1);
        prove(check, Calls.with("0.33-0.33"), 0, 1, OPEN, 1);
        // Not the lower end of the box, but its middle, rounded down: -6 of -8 to -3.
        x = over("a", -8, -3);
        prove(check, x, -6, 1, REFUTED, 1);
        prove(check, x, -7, 1, OPEN, 1);
    }

    @Says("if the form over the box of its middles, (lo + hi) >> 1 for each input, is not wild")
    static void wildMiddles(Check check) {
        // The middle is 0, and nothing is refuted; the first part from -256 to 0 has the middle -128.
        AffineRanges x = over("1/a", -256, 256);
        prove(check, x, 0, 1, OPEN, 1);
        prove(check, x, 0, 2, REFUTED, 2, -256, 0, 0, 0, 0);
        prove(check, over("R(a)", -256, -2), 999, 1, OPEN, 1);
        // The whole box is wild, but its middle is not.
        prove(check, over("1/a", -256, 258), 65536, 1, REFUTED, 1);
        prove(check, over("1/a", -256, 258), 65535, 1, OPEN, 1);
    }

    @Says("if its form is not wild and the lower end of its best range is greater than limit, it is done")
    static void wildBoxesAreNotDone(Check check) {
        AffineRanges x = over("1/a", 0, 256);
        prove(check, x, -1000000, 1, OPEN, 1);
        prove(check, over("1/a", 1, 256), -1000000, 1, PROVED, 1);
        prove(check, Calls.with("1/0"), -1000000, 1, OPEN, 1);
    }

    @Says("Otherwise, if most boxes or more have been counted, or the box cannot be split, the result is OPEN.")
    static void mostBoxesCounted(Check check) {
        // It is refuted by the ninth box.
        AffineRanges x = Calls.with("a");
        for (int most = 1; most <= 8; most++) prove(check, x, 0, most, OPEN, most, 0, 0, 0, 0, 256 >> (most - 1));
        prove(check, x, 0, 9, REFUTED, 9, 0, 0, 0, 0, 1);
        prove(check, x, 0, 10, REFUTED, 9, 0, 0, 0, 0, 1);
    }

    @Says("Otherwise, if most boxes or more have been counted, or the box cannot be split, the result is OPEN.")
    static void moreBoxesThanMostCounted(Check check) {
        // The second box is done, though 2 are counted; the third one is neither done nor refuted.
        AffineRanges x = Calls.with("a-2*b+2");
        prove(check, x, 0, 2, OPEN, 3, 0, 128, 0, 0, 256, 256, 256, 256);
        // All boxes are done, though more than most are counted.
        x = over("a*a", -256, 256);
        prove(check, x, -1, 1, OPEN, 1);
        prove(check, x, -1, 2, PROVED, 3);
        prove(check, x, -1, 3, PROVED, 3);
    }

    @Says("- `most`: 1 to 200")
    static void twoHundredBoxes(Check check) {
        // The difference is 0 everywhere, but only over small boxes it is told to be greater than -2500 / 256.
        AffineRanges x = over("a*b-b*a", 0, 25600, 0, 25600);
        prove(check, x, -2500, 200, OPEN, 200);
        prove(check, x, -2500, 199, OPEN, 199);
        // The 199th box is the last one that has to be split.
        x = over("a*b*c-b*a*c", -109, -105, 56, 445, 220, 226, -46, -18);
        prove(check, x, -15, 198, OPEN, 199);
        prove(check, x, -15, 199, OPEN, 199);
        prove(check, x, -15, 200, PROVED, 201);
        // The other boxes that are left when it has been split are done.
        x = over("a+d^4+(7+G(-8,d))", -99, 2919, -285, -280, 59, 74, -265, 741);
        prove(check, x, 1568, 199, OPEN, 199);
        prove(check, x, 1568, 200, PROVED, 211);
        x = over("c*b-d-L(3,-d*a)", 238, 3393, -123, -24, 94, 368, 264, 271);
        prove(check, x, -200, 198, OPEN, 198);
        prove(check, x, -200, 199, PROVED, 217);
        prove(check, x, -200, 200, PROVED, 217);
    }

    @Says("Otherwise, if most boxes or more have been counted, or the box cannot be split, the result is OPEN.")
    static void boxesThatCannotBeSplit(Check check) {
        prove(check, over("0.33", 5, 5, 6, 6, 7, 7, 8, 8), 84, 200, OPEN, 1, 5, 6, 7, 8, 5, 6, 7, 8);
        prove(check, over("1/a", 0, 0, 6, 6, 7, 7, 8, 8), 0, 200, OPEN, 1, 0, 6, 7, 8, 0, 6, 7, 8);
        // From 0 to 4 there are the boxes 0 to 4, 0 to 2, 0 to 1, and 0.
        prove(check, over("1/a", 0, 4, 6, 6, 7, 7, 8, 8), 0, 200, OPEN, 4, 0, 6, 7, 8, 0, 6, 7, 8);
    }

    @Says("Otherwise it is split, and the second part and then the first part are appended to the list.")
    static void firstPartFirst(Check check) {
        AffineRanges x = over("100-a", 0, 51200);
        prove(check, x, -12800, 50, REFUTED, 3, 25600, 0, 0, 0, 51200);
        x = over("a-100", 0, 51200);
        prove(check, x, -12800, 50, REFUTED, 2, 0, 0, 0, 0, 25600);
        // Both parts would be refuted: the first one is taken.
        x = over("A(a)-1", -512, 512);
        prove(check, x, 0, 50, REFUTED, 1);
        x = over("1-A(a)", -1024, 1024);
        prove(check, x, -256, 50, REFUTED, 2, -1024, 0, 0, 0, 0);
    }

    @Says("Again and again the last box is taken out of the list and evaluated (it counts then)")
    static void allPartsOfTheFirstPartBeforeTheSecond(Check check) {
        // The boxes are 0 to 512, 0 to 256, which is done, 256 to 512, 256 to 384, which is done, 384 to 512, and so on.
        AffineRanges x = over("2-a", 0, 512);
        prove(check, x, 0, 2, OPEN, 3, 256, 0, 0, 0, 512);
        prove(check, x, 0, 4, OPEN, 5, 384, 0, 0, 0, 512);
        prove(check, x, 0, 5, OPEN, 5, 384, 0, 0, 0, 512);
        prove(check, x, 0, 6, OPEN, 7, 448, 0, 0, 0, 512);
    }

    @Says("If the list becomes empty, the result is PROVED.")
    static void emptyList(Check check) {
        prove(check, Calls.with("7"), 1791, 1, PROVED, 1, 0, 0, 0, 0, 256, 256, 256, 256);
        prove(check, over("a*a", -256, 256), -1, 200, PROVED, 3, 0, 0, 0, 0, 256, 256, 256, 256);
        prove(check, over("A(a-a*a+4)", -100, 600), -1, 200, PROVED, 1);
    }

    // ---- splitting

    @Says("the one of these with the greatest absolute value of its coefficient")
    static void greatestCoefficient(Check check) {
        // The coefficients are -128 and 256.
        prove(check, Calls.with("2*b-a+1"), 0, 2, OPEN, 2, 0, 0, 0, 0, 256, 128, 256, 256);
        // They are 128 and -256; the first part is done, the second one is taken then.
        prove(check, Calls.with("a-2*b+2"), 0, 2, OPEN, 3, 0, 128, 0, 0, 256, 256, 256, 256);
        prove(check, Calls.with("a+b+c+2*d-1"), 0, 2, OPEN, 2, 0, 0, 0, 0, 256, 256, 256, 128);
        // That of a narrow input is greater than that of a wide one.
        prove(check, over("99*c+b-1", 0, 256, 0, 512, 0, 256), 0, 2, OPEN, 2, 0, 0, 0, 0, 256, 512, 128, 256);
    }

    @Says("the lowest one of several")
    static void equalCoefficients(Check check) {
        prove(check, Calls.with("a-b+1"), 0, 2, OPEN, 2, 0, 0, 0, 0, 128, 256, 256, 256);
        prove(check, Calls.with("d+c+b-1"), 0, 2, OPEN, 2, 0, 0, 0, 0, 256, 128, 256, 256);
        prove(check, Calls.with("d+c-0.5"), 0, 2, OPEN, 2, 0, 0, 0, 0, 256, 256, 128, 256);
    }

    @Says("the lowest one of several")
    static void equalWidths(Check check) {
        prove(check, Calls.with("0.33"), 84, 2, OPEN, 2, 0, 0, 0, 0, 128, 256, 256, 256);
        prove(check, Calls.with("0.33"), 84, 3, OPEN, 3, 0, 0, 0, 0, 128, 128, 256, 256);
        prove(check, Calls.with("0.33"), 84, 6, OPEN, 6, 0, 0, 0, 0, 64, 128, 128, 128);
        prove(check, over("0.33", 0, 10, 0, 90, 0, 80, 5, 95), 84, 2, OPEN, 2, 0, 0, 0, 5, 10, 45, 80, 95);
    }

    @Says("if the form of the expression is not wild and some such input has a coefficient other than 0 in it")
    static void coefficientBeforeWidth(Check check) {
        prove(check, over("c+0.5", 0, 512, 0, 256, -200, 100), 0, 2, OPEN, 2, 0, 0, -200, 0, 512, 256, -50, 256);
        prove(check, over("d*0.01-1", 0, 99999, 0, 256, 0, 256, 0, 200), 0, 1, REFUTED, 1);
        prove(check, over("0.33+d", 0, 99999, 0, 256, 0, 256, 0, 1), 84, 2, OPEN, 2, 0, 0, 0, 0, 99999, 256, 256, 0);
    }

    @Says("otherwise the one with the greatest hi - lo")
    static void widestWithoutCoefficients(Check check) {
        // R(c) has a coefficient of a free symbol alone.
        prove(check, over("R(c)-0.5", 0, 10, 0, 900, 0, 256, -5, 895), -128, 2, OPEN, 2, 0, 0, 0, -5, 10, 450, 256, 895);
        prove(check, over("0.33", 0, 10, 0, 11, 0, 12, -5, 8), 84, 2, OPEN, 2, 0, 0, 0, -5, 10, 11, 12, 1);
        prove(check, over("a-a", 0, 10, 0, 11, 0, 12, 0, 11), -1, 1, PROVED, 1);
    }

    @Says("otherwise the one with the greatest hi - lo")
    static void widestOfAWildForm(Check check) {
        prove(check, over("1/a", -1, 2, 0, 2, 0, 5, 0, 4), 0, 2, OPEN, 2, -1, 0, 0, 0, 2, 2, 2, 4);
        prove(check, over("1/a+9*b", -1, 2, 0, 2, 0, 2, 0, 3), -100000, 2, OPEN, 2, -1, 0, 0, 0, 0, 2, 2, 3);
    }

    @Says("an input is chosen whose domain has lo less than hi")
    static void pointsAreNotSplit(Check check) {
        // Only b has more than one number.
        prove(check, over("0.33", 7, 7, 3, 4, -9, -9, 100000, 100000), 84, 2, OPEN, 2, 7, 3, -9, 100000, 7, 3, -9, 100000);
        prove(check, over("1/a", 0, 0, 0, 0, 0, 0, 0, 2), 0, 2, OPEN, 2, 0, 0, 0, 0, 0, 0, 0, 1);
        prove(check, over("0.33", 7, 7, 3, 4, -9, -9, 1, 1), 84, 3, OPEN, 2, 7, 3, -9, 1, 7, 3, -9, 1);
    }

    @Says("With mid as (lo + hi) >> 1, its domain becomes lo to mid in the first part and mid to hi in the second part")
    static void unevenDomains(Check check) {
        // -8 to -3 becomes -8 to -6 and -6 to -3; 3 to 8 becomes 3 to 5 and 5 to 8.
        prove(check, over("0.33", -8, -3, 0, 0, 0, 0, 0, 0), 84, 2, OPEN, 2, -8, 0, 0, 0, -6);
        prove(check, over("-a", -8, -3), 5, 2, REFUTED, 3, -6, 0, 0, 0, -3);
        prove(check, over("0.33", 3, 8, 0, 0, 0, 0, 0, 0), 84, 2, OPEN, 2, 3, 0, 0, 0, 5);
        prove(check, over("-a", 3, 8), -6, 2, REFUTED, 3, 5, 0, 0, 0, 8);
        prove(check, over("-a", 100, 100000), -60000, 2, REFUTED, 3, 50050, 0, 0, 0, 100000);
    }

    @Says("(if hi is lo + 1: lo to lo and hi to hi)")
    static void domainsOfTwoNumbers(Check check) {
        prove(check, over("0.33", 6, 7, 0, 0, 0, 0, 0, 0), 84, 9, OPEN, 2, 6, 0, 0, 0, 6);
        prove(check, over("7-256*a", 6, 7, 0, 0, 0, 0, 0, 0), 0, 9, REFUTED, 3, 7, 0, 0, 0, 7);
        prove(check, over("-a", -7, -6, 0, 0, 0, 0, 0, 0), 6, 9, REFUTED, 3, -6, 0, 0, 0, -6);
        prove(check, over("-a", -1, 0, 0, 0, 0, 0, 0, 0), -1, 9, PROVED, 1);
        prove(check, over("-a", -1, 0, 0, 0, 0, 0, 0, 0), 0, 9, REFUTED, 3, 0, 0, 0, 0, 0);
        prove(check, over("a", 0, 1, 0, 0, 0, 0, 0, 0), 0, 9, REFUTED, 1);
        // 6 to 8 becomes 6 to 7 and 7 to 8.
        prove(check, over("0.33", 6, 8, 0, 0, 0, 0, 0, 0), 84, 2, OPEN, 2, 6, 0, 0, 0, 7);
    }

    @Says("A box whose domains all have lo equal to hi cannot be split.")
    static void points(Check check) {
        prove(check, over("0.33", -100000, -100000, 100000, 100000, 0, 0, 1, 1), 84, 200, OPEN, 1, -100000, 100000, 0, 1, -100000, 100000, 0, 1);
        prove(check, over("0.33", -100000, -100000, 100000, 100000, 0, 0, 1, 2), 84, 200, OPEN, 2, -100000, 100000, 0, 1, -100000, 100000, 0, 1);
    }
}
