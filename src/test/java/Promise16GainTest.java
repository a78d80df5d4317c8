/** Promise 16: gain. */
final class Promise16GainTest {
    private Promise16GainTest() {
    }

    private static void gain(Check check, String text, long want, int... ends) {
        check.due("gain of " + text, Calls.over(Calls.with(text), ends).gain(0), want);
    }

    @Says("Returns the width of the plain range minus that of the affine range")
    static void affineIsNarrower(Check check) {
        gain(check, "a-a", 512);
        gain(check, "a*(1-a)", 128);
        gain(check, "a-a-a+a", 1024);
        gain(check, "a-a", 400000, -100000, 100000);
    }

    @Says("Returns the width of the plain range minus that of the affine range")
    static void bothAreEqual(Check check) {
        gain(check, "a", 0);
        gain(check, "a+b-c", 0);
        gain(check, "7", 0);
        gain(check, "a", 0, 5, 5);
        gain(check, "R(a)", 0);
    }

    @Says("Returns the width of the plain range minus that of the affine range")
    static void plainIsNarrower(Check check) {
        gain(check, "a", -1, 3, 8);
        gain(check, "0.33", -1);
        gain(check, "a*b", -128);
        gain(check, "a^2", -64);
    }

    @Says("as GONE plus the code: NO_SUCH if there is no such expression")
    static void noSuchExpression(Check check) {
        AffineRanges x = Calls.with("a");
        for (int e = 1; e < 4; e++) check.due("gain(" + e + ")", x.gain(e), Calls.NO_SUCH);
        for (int e : Calls.BAD_NUMBERS) check.due("gain(" + e + ")", x.gain(e), Calls.NO_SUCH);
    }

    @Says("NOT_POSSIBLE if the form is wild.")
    static void wildForms(Check check) {
        gain(check, "1/a", Calls.NOT_POSSIBLE);
        gain(check, "a-a+1/0", Calls.NOT_POSSIBLE);
        gain(check, "R(a-2)", Calls.NOT_POSSIBLE);
        gain(check, "b^4", Calls.NOT_POSSIBLE, 0, 1, 0, 100000);
    }

    @Says("A call that returns an error code changes nothing.")
    static void changesNothing(Check check) {
        Twins.changesNothing(check, "gain(1)", Calls.NO_SUCH, x -> x.gain(1));
        Twins.changesNothing(check, "gain(2)", Calls.NOT_POSSIBLE, x -> x.gain(2));
    }
}
