/** Promise 11: reason; and when a form becomes wild. */
final class Promise11ReasonTest {
    private static final int ZERO = 1;
    private static final int NEGATIVE = 2;
    private static final int LARGE = 3;

    private Promise11ReasonTest() {
    }

    private static void reason(Check check, String text, int want, int... ends) {
        check.due("reason of " + text, Calls.over(Calls.with(text), ends).reason(0), want);
    }

    /** a * a * b is 1000000000, c is from lo to hi, and d is from 0 to 256. */
    private static AffineRanges atTheLargest(String text, int lo, int hi) {
        return Calls.over(Calls.with(text), 80000, 80000, 10240, 10240, lo, hi);
    }

    /** a, b and c are from 0 to 512, and d is 43520, which is 170. */
    private static AffineRanges skewed(String text) {
        return Calls.over(Calls.with(text), 0, 512, 0, 512, 0, 512, 43520, 43520);
    }

    @Says("Returns the reason, 0 if it is not wild")
    static void notWild(Check check) {
        String[] texts = {"a", "7", "a-a", "a*b", "-a", "a^3", "1/(a+1)", "R(a)", "A(-a)", "L(a,b)", "0/1"};
        for (String text : texts) reason(check, text, 0);
    }

    @Says("Returns the reason why the form of an expression is wild.")
    static void eachReason(Check check) {
        reason(check, "1/a", ZERO);
        reason(check, "R(a-2)", NEGATIVE);
        reason(check, "a^4", LARGE, 0, 100000);
    }

    @Says("NO_SUCH if there is no such expression.")
    static void noSuchExpression(Check check) {
        AffineRanges x = Calls.with("1/0");
        for (int e = 1; e < 4; e++) check.due("reason(" + e + ")", x.reason(e), -1);
        for (int e : Calls.BAD_NUMBERS) check.due("reason(" + e + ")", x.reason(e), -1);
    }

    @Says("The result is wild (ZERO) if 0 is within the best range of y.")
    static void divisorsAboutZero(Check check) {
        reason(check, "1/a", ZERO, 0, 256);
        reason(check, "1/a", 0, 1, 256);
        reason(check, "1/a", ZERO, -256, 0);
        reason(check, "1/a", 0, -256, -1);
        reason(check, "1/a", ZERO, 0, 0);
        reason(check, "1/a", ZERO, -1, 1);
        reason(check, "1/a", 0, 1, 1);
        reason(check, "1/a", 0, -1, -1);
        reason(check, "0/0", ZERO);
        reason(check, "0/a", ZERO);
    }

    @Says("The result is wild (ZERO) if 0 is within the best range of y.")
    static void zeroWithinOneRangeOfTheDivisorOnly(Check check) {
        // The plain range of a - a + 1 is from 0 to 512, the affine one from 256 to 256.
        reason(check, "1/(a-a+1)", 0);
        // The plain range of a * b is from 16 to 1024, the affine one from -376.
        reason(check, "1/(a*b)", 0, 64, 512, 64, 512);
        reason(check, "1/(a-a)", ZERO);
    }

    @Says("ROOT: wild (NEGATIVE) if u is less than 0.")
    static void rootsAboutZero(Check check) {
        reason(check, "R(a)", NEGATIVE, -5, -1);
        reason(check, "R(a)", 0, -5, 0);
        reason(check, "R(a)", NEGATIVE, -1, -1);
        reason(check, "R(a)", 0, 0, 0);
        reason(check, "R(a)", 0, -1, 1);
        reason(check, "R(a)", NEGATIVE, -100000, -1);
    }

    @Says("ROOT: wild (NEGATIVE) if u is less than 0.")
    static void bestUpperEndOfTheRoot(Check check) {
        // The plain range of a - a - 0.5 is from -384 to 128, the affine one from -128 to -128.
        reason(check, "R(a-a-0.5)", NEGATIVE);
        reason(check, "R(a-a)", 0);
        // The plain range of -a * b is up to -16, the affine one up to 376.
        reason(check, "R(-a*b)", NEGATIVE, 64, 512, 64, 512);
    }

    @Says("A form becomes wild if the absolute value of c, of r, or of lo or hi is greater than 1000000000.")
    static void pointsAtTheLargest(Check check) {
        check.due("1000000000", atTheLargest("a^2*b+c", 0, 0).reason(0), 0);
        check.due("1000000001", atTheLargest("a^2*b+c", 1, 1).reason(0), LARGE);
        check.due("999999999", atTheLargest("a^2*b+c", -1, -1).reason(0), 0);
        check.due("-1000000000", atTheLargest("-a^2*b+c", 0, 0).reason(0), 0);
        check.due("-1000000001", atTheLargest("-a^2*b+c", -1, -1).reason(0), LARGE);
        check.due("-999999999", atTheLargest("-a^2*b+c", 1, 1).reason(0), 0);
    }

    @Says("A form becomes wild if the absolute value of c, of r, or of lo or hi is greater than 1000000000.")
    static void centerAlone(Check check) {
        // The center is 18816 * 170 * 170 + 456217600; the plain range is up to 929715200, the radius 906304000.
        AffineRanges x = skewed("(8-a*b*c)^2*d*d+71*251*100");
        check.due("center of 1000000000", x.reason(0), 0);
        check.due("center", x.part(0, 12), 1000000000);
        check.due("radius", x.part(0, 14), 906304000);
        check.due("upper end", x.bound(0, 1, 1), 929715200);
        check.due("center of 1000000001", skewed("(8-a*b*c)^2*d*d+71*251*100+1/256").reason(0), LARGE);
        check.due("center of -1000000000", skewed("-(8-a*b*c)^2*d*d-71*251*100").reason(0), 0);
        check.due("center of -1000000001", skewed("-(8-a*b*c)^2*d*d-71*251*100-1/256").reason(0), LARGE);
    }

    @Says("A form becomes wild if the absolute value of c, of r, or of lo or hi is greater than 1000000000.")
    static void radiusAlone(Check check) {
        AffineRanges x = skewed("(8-a*b*c)^2*d*d-a*366*500*2");
        check.due("radius of 1000000000", x.reason(0), 0);
        check.due("radius", x.part(0, 14), 1000000000);
        check.due("center", x.part(0, 12), 450086400);
        check.due("lower end", x.bound(0, 1, 0), -187392000);
        check.due("upper end", x.bound(0, 1, 1), 473497600);
        // 0.01 has a loose part of 1.
        check.due("radius of 1000000001", skewed("(8-a*b*c)^2*d*d-a*366*500*2-0.01").reason(0), LARGE);
    }

    @Says("A form becomes wild if the absolute value of c, of r, or of lo or hi is greater than 1000000000.")
    static void plainEndsAlone(Check check) {
        // The center and the radius are 0 and 0, or 0 and 1.
        AffineRanges x = atTheLargest("a^2*b*d-a^2*b*d", 0, 1);
        Forms.due(check, "ends of 1000000000", x, 0, 0, -1000000000, 1000000000, 0, 0);
        check.due("upper end of 1000000001", atTheLargest("a^2*b*d-a^2*b*d+c", 0, 1).reason(0), LARGE);
        check.due("lower end of -1000000001", atTheLargest("a^2*b*d-a^2*b*d-c", 0, 1).reason(0), LARGE);
        check.due("upper end of 1000000000", atTheLargest("a^2*b*d-a^2*b*d+c", 0, 0).reason(0), 0);
    }

    @Says("a result whose center, radius or plain range is too large is wild (LARGE), as told under FORMS")
    static void eachOperationThatMakesLargeForms(Check check) {
        String[] large = {"a^2*b+c", "c+a^2*b", "a^2*b-(-c)", "-a^2*b-c", "a^2*b*1.01", "1.01*(a^2*b)", "(a^2*b)^2", "(a^2*b)^3", "(a^2*b)^4", "a^2*b/0.99", "a^2*b/c"};
        for (String text : large) check.due("reason of " + text, atTheLargest(text, 1, 1).reason(0), LARGE);
        String[] small = {"a^2*b-c", "c-a^2*b", "a^2*b*0.99", "a^2*b/1", "a^2*b/1.01", "A(-a^2*b)", "R(a^2*b)", "L(a^2*b,c)", "G(a^2*b,c)", "-a^2*b"};
        for (String text : small) check.due("reason of " + text, atTheLargest(text, 1, 1).reason(0), 0);
    }

    @Says("(All products are computed without overflow;")
    static void productsFarTooLarge(Check check) {
        // Products whose lowest 32 or 64 bits would be 0, or would have the other sign.
        reason(check, "a*a", 0, 65536, 65536);
        check.due("a*a", Calls.over(Calls.with("a*a"), 65536, 65536).part(0, 12), 16777216);
        check.due("a^2", Calls.over(Calls.with("a^2"), 65536, 65536).part(0, 12), 16777216);
        check.due("a*b", Calls.over(Calls.with("a*b"), 65536, 65536, -65536, -65536).bound(0, 1, 0), -16777216);
        reason(check, "a*a*a", LARGE, 65536, 65536);
        reason(check, "a^4", LARGE, 65536, 65536);
        reason(check, "(a*a)*(a*a)", LARGE, 65536, 65536);
        reason(check, "a^4", LARGE, -100000, 100000);
        reason(check, "(a^2*b)^2", LARGE, 80000, 80000, -10240, 10240);
        reason(check, "(a^2*b)*(a^2*b)", LARGE, 80000, 80000, -10240, 10240);
        AffineRanges x = Calls.over(Calls.with("(a^2*b+c^2*d)^2"), -65000, 65000, -6000, 6000, -65000, 65000, -6000, 6000);
        x.setSymbols(0);
        check.due("reason of a great loose part", x.reason(0), LARGE);
    }

    @Says("The result of a step is wild if one of its operands is.")
    static void everyOperationOnAWildForm(Check check) {
        String[] texts = {"1/0+a", "a+1/0", "1/0-a", "a-1/0", "-1/0", "(1/0)^2", "(1/0)^3", "(1/0)^4", "1/0*a", "a*(1/0)", "0*(1/0)", "1/0*0", "1/0/a", "b/(1/0)", "A(1/0)", "R(1/0)",
            "L(1/0,a)", "L(a,1/0)", "G(1/0,a)", "G(a,1/0)", "1/0-1/0", "L(0-9,G(9,1/0))"};
        for (String text : texts) reason(check, text, ZERO, 256, 256, 256, 256);
    }

    @Says("the reason is that of the first step that became wild")
    static void firstOfTwoReasons(Check check) {
        reason(check, "1/0+R(0-1)", ZERO);
        reason(check, "R(0-1)+1/0", NEGATIVE);
        reason(check, "b^4*b^4-1/0", LARGE, 0, 0, 99999, 99999);
        reason(check, "1/0-b^4*b^4", ZERO, 0, 0, 99999, 99999);
        reason(check, "R(-b)-b^4*b^4", NEGATIVE, 0, 0, 99999, 99999);
        reason(check, "b^4*b^4-R(-b)", LARGE, 0, 0, 99999, 99999);
        reason(check, "L(R(0-1),1/0)", NEGATIVE);
        reason(check, "G(1/0,R(0-1))", ZERO);
        reason(check, "R(0-1)*(1/0)", NEGATIVE);
        reason(check, "R(0-1)/0", NEGATIVE);
    }

    @Says("the reason is that of the first step that became wild")
    static void notThatOfALaterStep(Check check) {
        // The divisor is wild already; the root's operand is wild already.
        reason(check, "1/R(0-1)", NEGATIVE);
        reason(check, "R(1/0)", ZERO);
        reason(check, "R(0-1/0)", ZERO);
        reason(check, "1/(b^4)^4", LARGE, 0, 0, 99999, 99999);
        reason(check, "0*(1/0)", ZERO);
        reason(check, "(b^4*b^4-b^4*b^4)/0", LARGE, 0, 0, 99999, 99999);
    }

    @Says("The form of an expression over a box is that of its last step, if all steps are made from the domains of the box.")
    static void overTheBoxOfNow(Check check) {
        AffineRanges x = Calls.with("1/a");
        check.due("reason(0) from 0", x.reason(0), ZERO);
        x.setDomain(0, 1, 2);
        check.due("reason(0) from 1", x.reason(0), 0);
        x.setDomain(0, -2, 0);
        check.due("reason(0) to 0", x.reason(0), ZERO);
        x.setDomain(0, -2, -1);
        check.due("reason(0) to -1", x.reason(0), 0);
    }

    @Says("A call that returns an error code changes nothing.")
    static void changesNothing(Check check) {
        Twins.changesNothing(check, "reason(1)", -1, x -> x.reason(1));
        Twins.changesNothing(check, "reason(4)", -1, x -> x.reason(4));
        Twins.changesNothing(check, "reason(2)", ZERO, x -> x.reason(2));
    }
}
