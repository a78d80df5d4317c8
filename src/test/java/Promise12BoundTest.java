/** Promise 12: bound; and the affine, the plain and the best range of a form. */
final class Promise12BoundTest {
    private Promise12BoundTest() {
    }

    private static void ranges(Check check, String name, AffineRanges x, long... want) {
        for (int i = 0; i < 6; i++) check.due(name + ": bound(0, " + i / 2 + ", " + i % 2 + ")", x.bound(0, i / 2, i % 2), want[i]);
    }

    private static void plain(Check check, String text, long lo, long hi, int... ends) {
        Forms.plain(check, text, Calls.over(Calls.with(text), ends), lo, hi);
    }

    @Says("- `kind`: AFFINE, PLAIN or BEST")
    static void allKindsAndSides(Check check) {
        ranges(check, "a*b+c*(1-c)", Calls.with("a*b+c*(1-c)"), -128, 384, 0, 512, 0, 384);
    }

    @Says("as GONE plus the code: NO_SUCH if there is no such expression")
    static void noSuchExpression(Check check) {
        AffineRanges x = Calls.with("a");
        for (int e = 1; e < 4; e++) check.due("bound(" + e + ", 0, 0)", x.bound(e, 0, 0), Calls.NO_SUCH);
        for (int e : Calls.BAD_NUMBERS) check.due("bound(" + e + ", 0, 0)", x.bound(e, 0, 0), Calls.NO_SUCH);
    }

    @Says("or, if it returns a long, GONE plus the code")
    static void codesOfALong(Check check) {
        AffineRanges x = Calls.with("1/a");
        check.due("bound(1, 0, 0)", x.bound(1, 0, 0), -1000000000000000001L);
        check.due("bound(0, 3, 0)", x.bound(0, 3, 0), -1000000000000000002L);
        check.due("bound(0, 0, 0)", x.bound(0, 0, 0), -1000000000000000005L);
        check.due("part(1, 0)", x.part(1, 0), -1000000000000000001L);
        check.due("trace(0, 3, 0)", x.trace(0, 3, 0), -1000000000000000001L);
        check.due("gain(0)", x.gain(0), -1000000000000000005L);
        check.due("sample(0, 256, 0)", x.sample(0, 256, 0), -1000000000000000002L);
        check.due("tighten(0, 101, 0)", x.tighten(0, 101, 0), -1000000000000000002L);
        check.due("proof(0)", x.proof(0), -1000000000000000006L);
    }

    @Says("BAD_VALUE if another argument is out of range")
    static void kindOutOfRange(Check check) {
        AffineRanges x = Calls.with("a");
        int[] wrong = {Integer.MIN_VALUE, -2, -1, 3, 4, Integer.MAX_VALUE};
        for (int kind : wrong) {
            check.due("bound(0, " + kind + ", 0)", x.bound(0, kind, 0), Calls.BAD_VALUE);
            check.due("bound(0, " + kind + ", 1)", x.bound(0, kind, 1), Calls.BAD_VALUE);
        }
    }

    @Says("BAD_VALUE if another argument is out of range")
    static void sideOutOfRange(Check check) {
        AffineRanges x = Calls.with("a");
        int[] wrong = {Integer.MIN_VALUE, -2, -1, 2, 3, Integer.MAX_VALUE};
        for (int side : wrong) {
            for (int kind = 0; kind < 3; kind++) check.due("bound(0, " + kind + ", " + side + ")", x.bound(0, kind, side), Calls.BAD_VALUE);
        }
    }

    @Says("NOT_POSSIBLE if the form is wild.")
    static void wildForms(Check check) {
        String[] texts = {"1/a", "R(a-2)", "(99*a+99)^4"};
        for (int i = 0; i < texts.length; i++) {
            AffineRanges x = Calls.with(texts[i]);
            check.due("reason of " + texts[i], x.reason(0), i + 1);
            for (int k = 0; k < 6; k++) check.due("bound of " + texts[i], x.bound(0, k / 2, k % 2), Calls.NOT_POSSIBLE);
        }
    }

    @Says("it names its errors in the order in which they are checked, and the first that applies is returned")
    static void orderOfErrors(Check check) {
        AffineRanges x = Calls.with("1/a");
        check.due("bound(1, 3, 2)", x.bound(1, 3, 2), Calls.NO_SUCH);
        check.due("bound(4, 3, 0)", x.bound(4, 3, 0), Calls.NO_SUCH);
        check.due("bound(0, 3, 0)", x.bound(0, 3, 0), Calls.BAD_VALUE);
        check.due("bound(0, 0, 2)", x.bound(0, 0, 2), Calls.BAD_VALUE);
        check.due("bound(0, 0, 0)", x.bound(0, 0, 0), Calls.NOT_POSSIBLE);
    }

    @Says("A call that returns an error code changes nothing.")
    static void changesNothing(Check check) {
        Twins.changesNothing(check, "bound(1, 0, 0)", Calls.NO_SUCH, x -> x.bound(1, 0, 0));
        Twins.changesNothing(check, "bound(0, 3, 0)", Calls.BAD_VALUE, x -> x.bound(0, 3, 0));
        Twins.changesNothing(check, "bound(2, 0, 0)", Calls.NOT_POSSIBLE, x -> x.bound(2, 0, 0));
        Twins.changesNothing(check, "bound(3, 1, 1)", 152 + 7, x -> x.bound(3, 1, 1));
    }

    @Says("its affine range is from c - r to c + r")
    static void affineRange(Check check) {
        ranges(check, "3 to 8", Calls.over(Calls.with("a"), 3, 8), 2, 8, 3, 8, 3, 8);
        ranges(check, "a*b", Calls.with("a*b"), -128, 256, 0, 256, 0, 256);
        ranges(check, "a point", Calls.over(Calls.with("a"), -7, -7), -7, -7, -7, -7, -7, -7);
        ranges(check, "0.33", Calls.with("0.33"), 83, 85, 84, 85, 84, 85);
    }

    @Says("Its best range is from the greater one of c - r and lo to the lesser one of c + r and hi.")
    static void bothEndsOfOneRange(Check check) {
        ranges(check, "a-a", Calls.with("a-a"), 0, 0, -256, 256, 0, 0);
        ranges(check, "a*b from -256", Calls.over(Calls.with("a^2"), -100, 500), -314, 978, 0, 977, 0, 977);
    }

    @Says("Its best range is from the greater one of c - r and lo to the lesser one of c + r and hi.")
    static void oneEndOfEachRange(Check check) {
        ranges(check, "plain lower end, affine upper end", Calls.with("a*b+c*(1-c)"), -128, 384, 0, 512, 0, 384);
        ranges(check, "affine lower end, plain upper end", Calls.with("-(a*b+c*(1-c))"), -384, 128, -512, 0, -384, 0);
    }

    @Says("its plain range is its domain")
    static void plainRangeOfAnInput(Check check) {
        plain(check, "a", 3, 8, 3, 8);
        plain(check, "a", -100000, 100000, -100000, 100000);
        plain(check, "d", 0, 256);
        plain(check, "a", -1, -1, -1, -1);
    }

    @Says("e is 0 and the plain range from c to c if this is exact; otherwise e is 1 and the plain range is from c to c + 1")
    static void plainRangeOfANumber(Check check) {
        plain(check, "0", 0, 0);
        plain(check, "0.25", 64, 64);
        plain(check, "0.5", 128, 128);
        plain(check, "0.75", 192, 192);
        plain(check, "999", 255744, 255744);
        plain(check, "0.01", 2, 3);
        plain(check, "0.24", 61, 62);
        plain(check, "0.26", 66, 67);
        plain(check, "0.99", 253, 254);
        plain(check, "999.99", 255997, 255998);
    }

    @Says("- ADD: the sums of centers, coefficients, loose parts and ends of the plain ranges.")
    static void plainRangeOfASum(Check check) {
        plain(check, "a+b", -5, 5, 3, 8, -8, -3);
        plain(check, "0.33+0.67", 255, 257);
        plain(check, "a+a", -200000, 200000, -100000, 100000);
    }

    @Says("the plain range from lo - hy to hi - ly")
    static void plainRangeOfADifference(Check check) {
        plain(check, "a-b", 6, 16, 3, 8, -8, -3);
        plain(check, "a-a", -5, 5, 3, 8);
        plain(check, "0.33-0.67", -88, -86);
    }

    @Says("the plain range from -hi to -lo")
    static void plainRangeOfANegation(Check check) {
        plain(check, "-a", -8, -3, 3, 8);
        plain(check, "-a", 3, 8, -8, -3);
        plain(check, "-a", -8, 3, -3, 8);
        plain(check, "-0.33", -85, -84);
    }

    @Says("Plain range: from the least one to the greatest one of the products of an end of the plain range of x and an end of that of y")
    static void productsOfEnds(Check check) {
        // Each of the four products is once the least, and once the greatest.
        plain(check, "a*b", 6, 20, 512, 1024, 3, 5);
        plain(check, "a*b", -12, -4, 512, 1024, -3, -2);
        plain(check, "a*b", -20, -4, -1024, -512, 2, 5);
        plain(check, "a*b", 4, 20, -1024, -512, -5, -2);
        plain(check, "a*b", -20, 12, -1024, 512, -3, 5);
        plain(check, "a*b", -24, 12, -1024, 512, -3, 6);
        plain(check, "a*b", -24, 20, -512, 1024, -6, 5);
        plain(check, "a*b", -12, 24, -512, 1024, -1, 6);
        plain(check, "a*b", -20, 20, -1024, 1024, 2, 5);
        plain(check, "a*b", -12, 20, 512, 1024, -3, 5);
        plain(check, "a*b", 0, 0, 0, 0, -100000, 100000);
        plain(check, "a*a", -256, 256, -256, 256);
    }

    @Says("divided by 256, the lower end rounded down, the upper one rounded up.")
    static void productsAreRoundedOutwards(Check check) {
        plain(check, "a*b", 0, 1, 3, 8, 3, 8);
        plain(check, "a*b", -1, 0, 3, 8, -8, -3);
        plain(check, "a*b", 0, 1, 1, 1, 1, 1);
        plain(check, "a*b", -1, 0, 1, 1, -1, -1);
        plain(check, "a*b", 1, 1, 16, 16, 16, 16);
        plain(check, "a*b", 0, 1, 15, 15, 17, 17);
        plain(check, "a*b", 1, 2, 257, 257, 1, 1);
        plain(check, "a*b", -2, -1, -257, -257, 1, 1);
        plain(check, "a*b", -1, -1, -256, -256, 1, 1);
    }

    @Says("Plain range: the squares of its ends, divided by 256, the lesser one rounded down, the greater one rounded up")
    static void squaresOfEnds(Check check) {
        plain(check, "a^2", 256, 1024, 256, 512);
        plain(check, "a^2", 256, 1024, -512, -256);
        plain(check, "a^2", 0, 1, 3, 8);
        plain(check, "a^2", 1, 2, 17, 17);
        plain(check, "a^2", 1, 1, 16, 16);
        plain(check, "a^2", 1, 2, -17, -17);
        plain(check, "a^2", 1, 2, -18, -17);
        plain(check, "a^2", 1, 2, 17, 18);
    }

    @Says("but from 0 if 0 is within the plain range of x")
    static void squaresAboutZero(Check check) {
        plain(check, "a^2", 0, 1024, 0, 512);
        plain(check, "a^2", 0, 1024, -512, 0);
        plain(check, "a^2", 0, 1024, -512, 256);
        plain(check, "a^2", 0, 1024, -256, 512);
        plain(check, "a^2", 0, 0, 0, 0);
        plain(check, "a^2", 1, 1024, 16, 512);
        plain(check, "a^2", 1, 1024, -512, -16);
        plain(check, "a^2", 0, 1024, -16, 512);
        plain(check, "a^2", 0, 1024, -512, 16);
        plain(check, "a^2", 0, 1, -1, 1);
        // The affine range is 0 to 0, but the plain one is -256 to 256; and the other way round.
        plain(check, "(a-a+1)^2", 0, 1024);
        plain(check, "(a*b)^2", 1, 4096, 64, 512, 64, 512);
    }

    @Says("The reciprocal is plain from 65536 / n, rounded down, to 65536 / m, rounded up.")
    static void reciprocals(Check check) {
        plain(check, "1/a", 128, 512, 128, 512);
        plain(check, "1/a", -512, -128, -512, -128);
        plain(check, "1/a", 9362, 21846, 3, 7);
        plain(check, "1/a", -21846, -9362, -7, -3);
        plain(check, "1/a", 65536, 65536, 1, 1);
        plain(check, "1/a", -65536, -65536, -1, -1);
        plain(check, "1/a", 1, 1, 65536, 65536);
        plain(check, "1/a", 0, 1, 65537, 65537);
        plain(check, "1/a", 1, 2, 65535, 65535);
        plain(check, "1/a", -1, 0, -65537, -65537);
        plain(check, "1/a", -2, -1, -65535, -65535);
        plain(check, "1/a", 0, 65536, 1, 100000);
        plain(check, "1/(a^2*b)", 0, 1, 80000, 80000, 10240, 10240);
    }

    @Says("The reciprocal is plain from 65536 / n, rounded down, to 65536 / m, rounded up.")
    static void reciprocalOfTheBestRange(Check check) {
        // The best range of a - a + 2 is from 512 to 512, the plain one from 256 to 768.
        plain(check, "1/(a-a+2)", 128, 128);
        // The best range of a * b is from 64 to 1024, as is the plain one; the affine one is from -224.
        plain(check, "1/(a*b)", 64, 1024, 128, 512, 128, 512);
    }

    @Says("otherwise plain from 0 to the greater one of -l and u")
    static void absoluteValues(Check check) {
        plain(check, "A(a)", 0, 8, -8, 3);
        plain(check, "A(a)", 0, 8, -3, 8);
        plain(check, "A(a)", 0, 8, -8, 8);
        plain(check, "A(a)", 0, 8, -8, 1);
        plain(check, "A(a)", 0, 8, -1, 8);
        plain(check, "A(a)", 0, 8, 0, 8);
        plain(check, "A(a)", 0, 8, -8, 0);
        plain(check, "A(a)", 3, 8, 3, 8);
        plain(check, "A(a)", 3, 8, -8, -3);
        plain(check, "A(a)", 0, 0, 0, 0);
    }

    @Says("otherwise plain from 0 to the greater one of -l and u")
    static void absoluteValueOfTheBestRange(Check check) {
        // The best range of a * (1 - a) - 0.25 is from -64 to 64, the plain one from -64 to 192.
        plain(check, "A(a*(1-a)-0.25)", 0, 64);
        plain(check, "A(0.25-a*(1-a))", 0, 64);
        // The best range of a * b - 0.75 is from -192 to 64, the affine one from -320 to 64.
        plain(check, "A(a*b-0.75)", 0, 192);
        plain(check, "A(0.75-a*b)", 0, 192);
    }

    @Says("Otherwise plain from the square root of 256 * l (of 0 if l is less than 0), rounded down, to the square root of 256 * u, rounded up.")
    static void rootsAreRoundedOutwards(Check check) {
        plain(check, "R(a)", 0, 256, 0, 256);
        plain(check, "R(a)", 35, 43, 5, 7);
        plain(check, "R(a)", 16, 16, 1, 1);
        plain(check, "R(a)", 22, 23, 2, 2);
        plain(check, "R(a)", 512, 512, 1024, 1024);
        plain(check, "R(a)", 511, 512, 1023, 1023);
        plain(check, "R(a)", 512, 513, 1025, 1025);
        plain(check, "R(a)", 5059, 5060, 100000, 100000);
        plain(check, "R(a^2*b)", 505964, 505965, 80000, 80000, 10240, 10240);
    }

    @Says("Otherwise plain from the square root of 256 * l (of 0 if l is less than 0), rounded down, to the square root of 256 * u, rounded up.")
    static void rootsAboutZero(Check check) {
        plain(check, "R(a)", 0, 43, -5, 7);
        plain(check, "R(a)", 0, 43, -1, 7);
        plain(check, "R(a)", 0, 43, 0, 7);
        plain(check, "R(a)", 16, 43, 1, 7);
        plain(check, "R(a)", 0, 0, -5, 0);
        plain(check, "R(a)", 0, 0, 0, 0);
        plain(check, "R(a)", 0, 16, -100000, 1);
    }

    @Says("Otherwise plain from the square root of 256 * l (of 0 if l is less than 0), rounded down, to the square root of 256 * u, rounded up.")
    static void rootOfTheBestRange(Check check) {
        // The best range of a - a + 1 is from 256 to 256, the plain one from 0 to 512; that of a * b is from 64 to 1024, the affine one from -224.
        plain(check, "R(a-a+1)", 256, 256);
        plain(check, "R(a*b)", 128, 512, 128, 512, 128, 512);
    }

    @Says("otherwise plain from the lesser one of l and m to the lesser one of u and n.")
    static void leastOfTwo(Check check) {
        plain(check, "L(a,b)", -50, 60, 10, 100, -50, 60);
        plain(check, "L(b,a)", -50, 60, 10, 100, -50, 60);
        plain(check, "L(a,b)", -50, 60, -50, 100, 10, 60);
        plain(check, "L(a,b)", -50, 60, 10, 60, -50, 100);
        plain(check, "L(a,b)", 0, 255, 0, 255, 254, 512);
        plain(check, "L(a-a+1,b)", 0, 256, 0, 256, 0, 512);
    }

    @Says("otherwise plain from the lesser one of l and m to the lesser one of u and n.")
    static void leastOfTheBestRanges(Check check) {
        // The best range of a - a + 0.5 is from 128 to 128, the plain one from -128 to 384.
        plain(check, "L(a-a+0.5,b)", 0, 128);
        plain(check, "L(b,a-a+0.5)", 0, 128);
        plain(check, "L(a-a-0.5,b)", -200, -128, 0, 256, -200, 0);
        plain(check, "L(b,a-a-0.5)", -200, -128, 0, 256, -200, 0);
        // The best range of a * b is from 0 to 256, the affine one from -128; that of -a * b is from -256 to 0, the affine one to 128.
        plain(check, "L(a*b,c)", 0, 100, 0, 256, 0, 256, 0, 100);
        plain(check, "L(c,a*b)", 0, 100, 0, 256, 0, 256, 0, 100);
        plain(check, "L(-a*b,c)", -256, 0, 0, 256, 0, 256, -100, 64);
        plain(check, "L(c,-a*b)", -256, 0, 0, 256, 0, 256, -100, 64);
    }

    @Says("otherwise plain from the greater one of l and m to the greater one of u and n.")
    static void greatestOfTheBestRanges(Check check) {
        plain(check, "G(a-a+0.5,b)", 128, 256);
        plain(check, "G(b,a-a+0.5)", 128, 256);
        plain(check, "G(a-a-0.5,b)", -128, 0, 0, 256, -200, 0);
        plain(check, "G(b,a-a-0.5)", -128, 0, 0, 256, -200, 0);
        plain(check, "G(a*b,c)", 0, 256, 0, 256, 0, 256, -64, 100);
        plain(check, "G(c,a*b)", 0, 256, 0, 256, 0, 256, -64, 100);
        plain(check, "G(-a*b,c)", -100, 0, 0, 256, 0, 256, -100, -50);
        plain(check, "G(c,-a*b)", -100, 0, 0, 256, 0, 256, -100, -50);
    }

    @Says("otherwise plain from the greater one of l and m to the greater one of u and n.")
    static void greatestOfTwo(Check check) {
        plain(check, "G(a,b)", 10, 100, 10, 100, -50, 60);
        plain(check, "G(b,a)", 10, 100, 10, 100, -50, 60);
        plain(check, "G(a,b)", 10, 100, -50, 100, 10, 60);
        plain(check, "G(a,b)", 10, 100, 10, 60, -50, 100);
        plain(check, "G(a,b)", 254, 512, 0, 255, 254, 512);
        plain(check, "G(a-a+1,b)", 256, 512, 0, 256, 0, 512);
    }
}
