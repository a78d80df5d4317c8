/** Promises 11 to 18: reason, bound, part, trace, dominant, gain, sample, compare; the numbers are worked out by hand. */
final class EvaluationTest {
    private EvaluationTest() {
    }

    static void run(Check check) {
        simpleForms(check);
        products(check);
        squares(check);
        quotients(check);
        choices(check);
        roots(check);
        naming(check);
        largest(check);
        reasons(check);
        wrongBounds(check);
        traces(check);
        dominant(check);
        gains(check);
        samples(check);
        comparisons(check);
        wrongComparisons(check);
    }

    private static void simpleForms(Check check) {
        Forms.due(check, "0.5", Calls.with("0.5"), 128, 0, 128, 128, 128, 128);
        Forms.due(check, "0.33", Calls.with("0.33"), 84, 1, 84, 85, 84, 85);
        Forms.due(check, "999.99", Calls.with("999.99"), 255997, 1, 255997, 255998, 255997, 255998);
        Forms.due(check, "0", Calls.with("0"), 0, 0, 0, 0, 0, 0);
        Forms.due(check, "3..8", Calls.over(Calls.with("a"), 3, 8), 5, 0, 3, 8, 3, 8, 0, 3);
        Forms.due(check, "-8..-3", Calls.over(Calls.with("b"), 0, 0, -8, -3), -6, 0, -8, -3, -8, -3, 1, 3);
        Forms.due(check, "7..7", Calls.over(Calls.with("d"), 0, 0, 0, 0, 0, 0, 7, 7), 7, 0, 7, 7, 7, 7);
        Forms.due(check, "0..1", Calls.over(Calls.with("c"), 0, 0, 0, 0, 0, 1), 0, 0, 0, 1, 0, 1, 2, 1);
        Forms.due(check, "a+b", Calls.over(Calls.with("a+b"), 3, 8, -8, -3), -1, 0, -5, 5, -5, 5, 0, 3, 1, 3);
        Forms.due(check, "a-b", Calls.over(Calls.with("a-b"), 3, 8, -8, -3), 11, 0, 6, 16, 6, 16, 0, 3, 1, -3);
        Forms.due(check, "-a", Calls.over(Calls.with("-a"), 3, 8), -5, 0, -8, -3, -8, -3, 0, -3);
        Forms.due(check, "0.33+0.67", Calls.with("0.33+0.67"), 255, 2, 255, 257, 255, 257);
        Forms.due(check, "0.33-0.67", Calls.with("0.33-0.67"), -87, 2, -88, -86, -88, -86);
        Forms.due(check, "-0.33", Calls.with("-0.33"), -84, 1, -85, -84, -85, -84);
    }

    private static void products(Check check) {
        Forms.due(check, "a*b", Calls.over(Calls.with("a*b"), 3, 8, -8, -3), -1, 0, -1, 0, -1, 0, 0, -1, 4, 4);
        AffineRanges x = Calls.over(Calls.with("a*b"), 3, 8, -8, -3);
        x.setSymbols(0);
        Forms.due(check, "a*b without names", x, -1, 4, -1, 0, -1, 0, 0, -1);
        Forms.due(check, "0.33*0.67", Calls.with("0.33*0.67"), 56, 0, 56, 58, 56, 58, 4, 2);
        Forms.due(check, "a*b, both signs", Calls.over(Calls.with("a*b"), -512, 256, -256, 768), -128, 0, -1536, 768, -1536, 768, 0, 384, 1, -256, 4, 768);
        Forms.due(check, "a*a", Calls.with("a*a"), 64, 0, 0, 256, 0, 256, 0, 128, 4, 64);
        Forms.due(check, "1*a", Calls.with("1*a"), 128, 0, 0, 256, 0, 256, 0, 128);
        Forms.due(check, "a*0.01", Calls.over(Calls.with("a*0.01"), 100, 100), 0, 0, 0, 2, 0, 2, 4, 2);
        Forms.due(check, "0.33*a, a negative", Calls.over(Calls.with("0.33*a"), -256, -256), -84, 0, -85, -84, -85, -84, 4, 1);
    }

    private static void squares(Check check) {
        Forms.due(check, "a^2", Calls.over(Calls.with("a^2"), 256, 512), 608, 0, 256, 1024, 256, 1024, 0, 384, 4, 32);
        Forms.due(check, "a^2, negative", Calls.over(Calls.with("a^2"), -512, -256), 608, 0, 256, 1024, 256, 1024, 0, -384, 4, 32);
        Forms.due(check, "a^2, small", Calls.over(Calls.with("a^2"), 3, 8), 0, 0, 0, 1, 0, 1, 4, 3);
        Forms.due(check, "0.33^2", Calls.with("0.33^2"), 27, 0, 27, 29, 27, 29, 4, 2);
        Forms.due(check, "a^2 across 0", Calls.over(Calls.with("a^2"), -100, 500), 332, 0, 0, 977, 0, 977, 0, 468, 4, 178);
        Forms.due(check, "a^2 from 0", Calls.with("a^2"), 96, 0, 0, 256, 0, 256, 0, 128, 4, 32);
        Forms.due(check, "a^2 up to 0", Calls.over(Calls.with("a^2"), -256, 0), 96, 0, 0, 256, 0, 256, 0, -128, 4, 32);
        Forms.due(check, "a^2 of a point", Calls.over(Calls.with("a^2"), -15, -15), 0, 0, 0, 1, 0, 1, 4, 1);
        Forms.due(check, "a^3", Calls.over(Calls.with("a^3"), 256, 512), 912, 0, 256, 2048, 256, 2048, 0, 880, 4, 48, 5, 208);
    }

    private static void quotients(Check check) {
        Forms.due(check, "1/a, negative", Calls.over(Calls.with("1/a"), -512, -128), -320, 0, -512, -128, -512, -128, 4, 192);
        Forms.due(check, "1/a, uneven", Calls.over(Calls.with("1/a"), 3, 7), 15604, 0, 9362, 21846, 9362, 21846, 4, 6242);
        Forms.due(check, "1/a, uneven and negative", Calls.over(Calls.with("1/a"), -7, -3), -15604, 0, -21846, -9362, -21846, -9362, 4, 6242);
        Forms.due(check, "1/a from the least", Calls.over(Calls.with("1/a"), 1, 256), 32896, 0, 256, 65536, 256, 65536, 4, 32640);
        Forms.due(check, "1/a of a point", Calls.over(Calls.with("1/a"), 512, 512), 128, 0, 128, 128, 128, 128);
        // 0 is within the plain range of the divisor, but not within its best range.
        Forms.due(check, "1/(a-a+1)", Calls.with("1/(a-a+1)"), 256, 0, 256, 256, 256, 256);
        int[][] across = {{0, 256}, {-5, 0}, {0, 0}, {-1, 1}};
        for (int[] ends : across) check.due("reason of 1/a from " + ends[0], Calls.over(Calls.with("1/a"), ends).reason(0), 1);
        check.due("reason of 1/a from 1", Calls.over(Calls.with("1/a"), 1, 1).reason(0), 0);
        check.due("reason of 1/a to -1", Calls.over(Calls.with("1/a"), -9, -1).reason(0), 0);
        check.due("reason of a/(b-b)", Calls.with("a/(b-b)").reason(0), 1);
    }

    private static void choices(Check check) {
        Forms.due(check, "A(a)", Calls.over(Calls.with("A(a)"), 3, 8), 5, 0, 3, 8, 3, 8, 0, 3);
        Forms.due(check, "A(a) from 0", Calls.over(Calls.with("A(a)"), 0, 8), 4, 0, 0, 8, 0, 8, 0, 4);
        Forms.due(check, "A(a), negative", Calls.over(Calls.with("A(a)"), -8, -3), 6, 0, 3, 8, 3, 8, 0, -3);
        Forms.due(check, "A(a) to 0", Calls.over(Calls.with("A(a)"), -8, 0), 4, 0, 0, 8, 0, 8, 0, -4);
        Forms.due(check, "A(a) across 0", Calls.over(Calls.with("A(a)"), -8, 3), 4, 0, 0, 8, 0, 8, 4, 4);
        Forms.due(check, "A(a) across 0, upwards", Calls.over(Calls.with("A(a)"), -1, 7), 3, 0, 0, 7, 0, 7, 4, 4);
        Forms.due(check, "A(a-a)", Calls.with("A(a-a)"), 0, 0, -256, 256, 0, 0);
        Forms.due(check, "A(0.33)", Calls.with("A(0.33)"), 84, 0, 84, 85, 84, 85, 4, 1);
        Forms.due(check, "L(a,b), apart", Calls.over(Calls.with("L(a,b)"), 0, 256, 256, 512), 128, 0, 0, 256, 0, 256, 0, 128);
        Forms.due(check, "L(a,b), over", Calls.over(Calls.with("L(a,b)"), 0, 256, 255, 512), 128, 0, 0, 256, 0, 256, 4, 128);
        Forms.due(check, "L(b,a), apart", Calls.over(Calls.with("L(b,a)"), 0, 256, 256, 512), 128, 0, 0, 256, 0, 256, 0, 128);
        Forms.due(check, "L(a,b), within", Calls.over(Calls.with("L(a,b)"), 10, 100, -50, 60), 5, 0, -50, 60, -50, 60, 4, 55);
        Forms.due(check, "L of points", Calls.over(Calls.with("L(a,b)"), 7, 7, 7, 7), 7, 0, 7, 7, 7, 7);
        Forms.due(check, "L(0.33,b)", Calls.over(Calls.with("L(0.33,b)"), 0, 0, 256, 512), 84, 0, 84, 85, 84, 85, 4, 1);
        Forms.due(check, "G(a,b), apart", Calls.over(Calls.with("G(a,b)"), 0, 256, 256, 512), 384, 0, 256, 512, 256, 512, 1, 128);
        Forms.due(check, "G(b,a), apart", Calls.over(Calls.with("G(b,a)"), 0, 256, 256, 512), 384, 0, 256, 512, 256, 512, 1, 128);
        Forms.due(check, "G(a,b), over", Calls.over(Calls.with("G(a,b)"), 0, 257, 256, 512), 384, 0, 256, 512, 256, 512, 4, 128);
        Forms.due(check, "G(a,b), within", Calls.over(Calls.with("G(a,b)"), 10, 100, -50, 60), 55, 0, 10, 100, 10, 100, 4, 45);
        // If both may be taken, it is x.
        Forms.due(check, "L(a-a,0)", Calls.with("L(a-a,0)"), 0, 0, -256, 256, 0, 0);
        Forms.due(check, "G(a-a,0)", Calls.with("G(a-a,0)"), 0, 0, -256, 256, 0, 0);
        Forms.due(check, "L(0,a-a)", Calls.with("L(0,a-a)"), 0, 0, 0, 0, 0, 0);
        Forms.due(check, "G(0,a-a)", Calls.with("G(0,a-a)"), 0, 0, 0, 0, 0, 0);
    }

    private static void roots(Check check) {
        Forms.due(check, "R(a)", Calls.with("R(a)"), 128, 0, 0, 256, 0, 256, 4, 128);
        Forms.due(check, "R(a), uneven", Calls.over(Calls.with("R(a)"), 5, 7), 39, 0, 35, 43, 35, 43, 4, 4);
        Forms.due(check, "R(a) across 0", Calls.over(Calls.with("R(a)"), -5, 7), 21, 0, 0, 43, 0, 43, 4, 22);
        Forms.due(check, "R(a) to 0", Calls.over(Calls.with("R(a)"), -5, 0), 0, 0, 0, 0, 0, 0);
        Forms.due(check, "R(a) of a square", Calls.over(Calls.with("R(a)"), 1024, 1024), 512, 0, 512, 512, 512, 512);
        Forms.due(check, "R(a) of 1", Calls.over(Calls.with("R(a)"), 1, 1), 16, 0, 16, 16, 16, 16);
        Forms.due(check, "R(a) of 2", Calls.over(Calls.with("R(a)"), 2, 2), 22, 0, 22, 23, 22, 23, 4, 1);
        // 100000^2 / 256 = 39062500; 25 * 39062500 = 976562500, whose root is that of 250000000000.
        Forms.due(check, "R of a great one", Calls.over(Calls.with("R(25*a^2)"), 100000, 100000), 500000, 0, 500000, 500000, 500000, 500000);
        check.due("reason of R(a) below 0", Calls.over(Calls.with("R(a)"), -5, -1).reason(0), 2);
        check.due("reason of R(a) at -1", Calls.over(Calls.with("R(a)"), -1, -1).reason(0), 2);
        check.due("reason of R(a) up to 0", Calls.over(Calls.with("R(a)"), -1, 0).reason(0), 0);
    }

    private static void naming(Check check) {
        AffineRanges x = Calls.over(Calls.with("a^3"), 256, 512);
        x.setSymbols(1);
        Forms.due(check, "a^3 with one name", x, 912, 0, 256, 2048, 256, 2048, 0, 880, 4, 256);
        x.setSymbols(2);
        Forms.due(check, "a^3 with two names", x, 912, 0, 256, 2048, 256, 2048, 0, 880, 4, 48, 5, 208);
        x.setSymbols(0);
        Forms.due(check, "a^3 without names", x, 912, 256, 256, 2048, 256, 2048, 0, 880);
        AffineRanges even = Calls.over(Calls.with("a^2+b^2+c^2"), 256, 512, 256, 512);
        even.setSymbols(2);
        Forms.due(check, "the lowest of two is condensed", even, 1312, 32, 512, 2304, 512, 2304, 0, 384, 1, 384, 2, 128, 4, 32, 5, 32);
        AffineRanges odd = Calls.over(Calls.with("a^2+b^2+c^2"), 256, 768, 256, 512);
        odd.setSymbols(2);
        Forms.due(check, "the least is condensed", odd, 1856, 32, 512, 3584, 512, 3584, 0, 1024, 1, 384, 2, 128, 4, 128, 5, 32);
        odd.setSymbols(8);
        Forms.due(check, "all have names", odd, 1856, 0, 512, 3584, 512, 3584, 0, 1024, 1, 384, 2, 128, 4, 128, 5, 32, 6, 32);
        // A symbol is free again when no form has it any longer.
        Forms.due(check, "a^2-a^2 uses two", Calls.with("a^2-a^2"), 0, 0, -256, 256, -64, 64, 4, 32, 5, -32);
        Forms.due(check, "A(a^2-1)+b^2", Calls.over(Calls.with("A(a^2-1)+b^2"), -300, 300), 224, 0, 0, 512, 0, 512, 1, 128, 4, 128, 5, 32);
        // No name without a loose part, and none for a sum, a difference, a copy or a number.
        Forms.due(check, "0.33+0.33-0.67", Calls.with("0.33+0.33-0.67"), -3, 3, -4, -1, -4, -1);
        Forms.due(check, "a*0.33+b*0.33", Calls.over(Calls.with("a*0.33+b*0.33"), 256, 256, 256, 256), 168, 0, 168, 170, 168, 170, 4, 1, 5, 1);
    }

    private static void largest(Check check) {
        // 80000^2 / 256 * 10240 / 256 = 1000000000
        AffineRanges x = Calls.over(Calls.with("a^2*b+c"), 80000, 80000, 10240, 10240, 0, 0);
        Forms.due(check, "the largest", x, 1000000000, 0, 1000000000, 1000000000, 1000000000, 1000000000);
        x.setDomain(2, 1, 1);
        check.due("one above the largest", x.reason(0), 3);
        x.setDomain(2, -1, -1);
        check.due("one below the largest", x.reason(0), 0);
        Calls.load(x, 0, "-a^2*b+c");
        check.due("one below the least", x.reason(0), 3);
        x.setDomain(2, 0, 0);
        Forms.due(check, "the least", x, -1000000000, 0, -1000000000, -1000000000, -1000000000, -1000000000);
        x = Calls.over(Calls.with("a^2*b*d"), 80000, 80000, 10240, 10240, 0, 0, -256, 256);
        Forms.due(check, "the largest radius", x, 0, 0, -1000000000, 1000000000, -1000000000, 1000000000, 3, 1000000000);
        // Only the radius, only the upper and only the lower plain end are too large.
        x = Calls.over(Calls.with("a^2*b*d*d"), 80000, 80000, 10240, 10240, 0, 0, 0, 256);
        check.due("the radius below the largest", x.reason(0), 0);
        x = Calls.over(Calls.with("a^2*b*d-a^2*b*d"), 80000, 80000, 10240, 10240, 0, 1, 0, 256);
        Forms.due(check, "the largest ends", x, 0, 0, -1000000000, 1000000000, 0, 0);
        Calls.load(x, 0, "a^2*b*d-a^2*b*d+c");
        check.due("an upper end too large", x.reason(0), 3);
        Calls.load(x, 0, "a^2*b*d-a^2*b*d-c");
        check.due("a lower end too large", x.reason(0), 3);
        x = Calls.over(Calls.with("G(a^2*b*d,c)"), 80000, 80000, 10240, 10240, -1, 0, -256, 256);
        Forms.due(check, "G at the largest", x, 499999999, 0, -1, 1000000000, -1, 1000000000, 4, 500000001);
        x = Calls.over(Calls.with("a^4*a^4*a^4"), 90000, 100000);
        check.due("far too large", x.reason(0), 3);
        Forms.due(check, "the widest input", Calls.over(Calls.with("a"), -100000, 100000), 0, 0, -100000, 100000, -100000, 100000, 0, 100000);
    }

    private static void reasons(Check check) {
        // The first step that became wild tells the reason.
        check.due("reason of 1/(a-a)+R(0-1)", Calls.with("1/(a-a)+R(0-1)").reason(0), 1);
        check.due("reason of R(0-1)+1/(a-a)", Calls.with("R(0-1)+1/(a-a)").reason(0), 2);
        check.due("reason of (b^4*b^4)/(a-a)", Calls.over(Calls.with("b^4*b^4/(a-a)"), 0, 256, 99999, 99999).reason(0), 3);
        check.due("reason of L(R(0-1),1/0)", Calls.with("L(R(0-1),1/0)").reason(0), 2);
        check.due("reason of 0*(1/0)", Calls.with("0*(1/0)").reason(0), 1);
        check.due("reason of A(-(1/0)^3)", Calls.with("A(-(1/0)^3)").reason(0), 1);
        check.due("reason of R(1/0)", Calls.with("R(1/0)").reason(0), 1);
        check.due("reason of 1/R(0-1)", Calls.with("1/R(0-1)").reason(0), 2);
        AffineRanges x = Calls.with("1/a");
        check.due("reason(0)", x.reason(0), 1);
        check.due("reason(1)", x.reason(1), -1);
        for (int e : Calls.BAD_NUMBERS) check.due("reason(" + e + ")", x.reason(e), -1);
        x.setDomain(0, 1, 2);
        check.due("reason(0) then", x.reason(0), 0);
    }

    private static void wrongBounds(Check check) {
        AffineRanges x = Calls.with("1/a");
        for (int e : Calls.BAD_NUMBERS) {
            check.due("bound(" + e + ", 3, 2)", x.bound(e, 3, 2), Calls.NO_SUCH);
            check.due("part(" + e + ", 15)", x.part(e, 15), Calls.NO_SUCH);
            check.due("gain(" + e + ")", x.gain(e), Calls.NO_SUCH);
            check.due("dominant(" + e + ")", x.dominant(e), -1);
        }
        check.due("bound(1, 0, 0)", x.bound(1, 0, 0), Calls.NO_SUCH);
        check.due("bound(0, 3, 0)", x.bound(0, 3, 0), Calls.BAD_VALUE);
        check.due("bound(0, -1, 0)", x.bound(0, -1, 0), Calls.BAD_VALUE);
        check.due("bound(0, 0, 2)", x.bound(0, 0, 2), Calls.BAD_VALUE);
        check.due("bound(0, 2, -1)", x.bound(0, 2, -1), Calls.BAD_VALUE);
        for (int kind = 0; kind < 3; kind++) {
            check.due("bound(0, " + kind + ", 0) of a wild form", x.bound(0, kind, 0), Calls.NOT_POSSIBLE);
            check.due("bound(0, " + kind + ", 1) of a wild form", x.bound(0, kind, 1), Calls.NOT_POSSIBLE);
        }
        check.due("part(1, 0)", x.part(1, 0), Calls.NO_SUCH);
        check.due("part(0, -1)", x.part(0, -1), Calls.BAD_VALUE);
        check.due("part(0, 15)", x.part(0, 15), Calls.BAD_VALUE);
        for (int what = 0; what <= 14; what++) check.due("part(0, " + what + ") of a wild form", x.part(0, what), Calls.NOT_POSSIBLE);
        check.due("gain(0) of a wild form", x.gain(0), Calls.NOT_POSSIBLE);
        check.due("gain(1)", x.gain(1), Calls.NO_SUCH);
        check.due("dominant(0) of a wild form", x.dominant(0), -5);
        check.due("dominant(1)", x.dominant(1), -1);
    }

    private static void traces(Check check) {
        AffineRanges x = Calls.over(Calls.with("a^3+1/b"), 256, 512, -1, 1);
        long[] lows = {256, 256, 256, 256, 256, -1, Calls.NOT_POSSIBLE, Calls.NOT_POSSIBLE};
        long[] highs = {512, 512, 1024, 2048, 256, 1, Calls.NOT_POSSIBLE, Calls.NOT_POSSIBLE};
        for (int i = 0; i < lows.length; i++) {
            check.due("trace(0, " + i + ", 0)", x.trace(0, i, 0), lows[i]);
            check.due("trace(0, " + i + ", 1)", x.trace(0, i, 1), highs[i]);
        }
        check.due("trace(0, 8, 0)", x.trace(0, 8, 0), Calls.NO_SUCH);
        check.due("trace(0, 8, 2)", x.trace(0, 8, 2), Calls.NO_SUCH);
        check.due("trace(0, -1, 0)", x.trace(0, -1, 0), Calls.NO_SUCH);
        check.due("trace(0, max, 0)", x.trace(0, Integer.MAX_VALUE, 0), Calls.NO_SUCH);
        check.due("trace(0, min, 0)", x.trace(0, Integer.MIN_VALUE, 0), Calls.NO_SUCH);
        check.due("trace(1, 0, 0)", x.trace(1, 0, 0), Calls.NO_SUCH);
        for (int e : Calls.BAD_NUMBERS) check.due("trace(" + e + ", 0, 0)", x.trace(e, 0, 0), Calls.NO_SUCH);
        check.due("trace(0, 0, 2)", x.trace(0, 0, 2), Calls.BAD_VALUE);
        check.due("trace(0, 7, -1)", x.trace(0, 7, -1), Calls.BAD_VALUE);
        // A step behind a wild one that does not use it is not wild.
        x = Calls.with("1/0+b");
        check.due("trace of 1/0+b, step 2", x.trace(0, 2, 1), Calls.NOT_POSSIBLE);
        check.due("trace of 1/0+b, step 3", x.trace(0, 3, 1), 256);
        check.due("trace of 1/0+b, step 4", x.trace(0, 4, 1), Calls.NOT_POSSIBLE);
    }

    private static void dominant(Check check) {
        String[] texts = {"a", "d", "a+b", "b-a", "a+2*b", "a-2*b", "c+d-b", "a+b+c+3*d", "a-a", "7", "a^2-a^2", "R(a)", "b*0", "2*c-b"};
        int[] inputs = {0, 3, 0, 0, 1, 1, 1, 3, -6, -6, -6, -6, -6, 2};
        for (int i = 0; i < texts.length; i++) check.due("dominant of " + texts[i], Calls.with(texts[i]).dominant(0), inputs[i]);
        check.due("dominant of a+b, b wider", Calls.over(Calls.with("a+b"), 0, 9, 0, 11).dominant(0), 1);
        check.due("dominant of a+b, b wider, but not its coefficient", Calls.over(Calls.with("a+b"), 0, 9, 0, 10).dominant(0), 0);
        check.due("dominant of a point", Calls.over(Calls.with("a"), 9, 9).dominant(0), -6);
        check.due("dominant of a+b, a a point", Calls.over(Calls.with("a+b"), 9, 9).dominant(0), 1);
    }

    private static void gains(Check check) {
        check.due("gain of a", Calls.with("a").gain(0), 0);
        check.due("gain of a, uneven", Calls.over(Calls.with("a"), 3, 8).gain(0), -1);
        check.due("gain of a-a", Calls.with("a-a").gain(0), 512);
        check.due("gain of a*b", Calls.over(Calls.with("a*b"), 3, 8, -8, -3).gain(0), -9);
        check.due("gain of a*(1-a)", Calls.with("a*(1-a)").gain(0), 128);
    }

    private static void samples(Check check) {
        String[] inputs = {"a", "b", "c", "d"};
        for (int i = 0; i < 4; i++) {
            AffineRanges x = Calls.with(inputs[i]);
            int[] values = {3, 9, 6, 4};
            x.setDomain(i, 3, 9);
            for (int k = 0; k < 4; k++) {
                check.due("sample of " + inputs[i], x.sample(0, k << (2 * i), 0), values[k]);
                check.due("sample of " + inputs[i], x.sample(0, 255 - (3 << (2 * i)) + (k << (2 * i)), 1), values[k]);
            }
            int[] negative = {-9, -4, -7, -8};
            x.setDomain(i, -9, -4);
            for (int k = 0; k < 4; k++) check.due("sample of a negative " + inputs[i], x.sample(0, k << (2 * i), 1), negative[k]);
            int[] wide = {-100000, 100000, 0, -50000};
            x.setDomain(i, -100000, 100000);
            for (int k = 0; k < 4; k++) check.due("sample of a wide " + inputs[i], x.sample(0, k << (2 * i), 0), wide[k]);
        }
        AffineRanges x = Calls.over(Calls.with("1/(a-0.5)+0.33*b"), 0, 256, 256, 512);
        check.due("sample at 0", x.sample(0, 0, 0), -512 + 84);
        check.due("sample at 0, upper", x.sample(0, 0, 1), -512 + 85);
        check.due("sample at b = 2", x.sample(0, 4, 0), -512 + 168);
        check.due("sample at b = 2, upper", x.sample(0, 4, 1), -512 + 170);
        check.due("sample at a = 1", x.sample(0, 1, 0), 512 + 84);
        check.due("sample at a = 1/2", x.sample(0, 2, 0), Calls.NOT_POSSIBLE);
        check.due("sample at a = 1/4", x.sample(0, 3, 1), -1024 + 85);
        check.due("the box stays", x.domain(0, 1), 1000256);
        wrongSamples(check, x);
    }

    private static void wrongSamples(Check check, AffineRanges x) {
        for (int e : Calls.BAD_NUMBERS) check.due("sample(" + e + ", 256, 2)", x.sample(e, 256, 2), Calls.NO_SUCH);
        check.due("sample(1, 0, 0)", x.sample(1, 0, 0), Calls.NO_SUCH);
        check.due("sample(0, -1, 0)", x.sample(0, -1, 0), Calls.BAD_VALUE);
        check.due("sample(0, 256, 0)", x.sample(0, 256, 0), Calls.BAD_VALUE);
        check.due("sample(0, 2, 2)", x.sample(0, 2, 2), Calls.BAD_VALUE);
        check.due("sample(0, 0, -1)", x.sample(0, 0, -1), Calls.BAD_VALUE);
        check.due("sample(0, 255, 0)", x.sample(0, 255, 0), -1024 + 105);
    }

    private static int compared(String first, String second, int... ends) {
        AffineRanges x = Calls.over(Calls.with(first), ends);
        Calls.load(x, 3, second);
        return x.compare(0, 3);
    }

    private static void comparisons(Check check) {
        check.due("compare a+1, a", compared("a+1", "a"), 1);
        check.due("compare a, a+1", compared("a", "a+1"), 2);
        check.due("compare a, a", compared("a", "a"), 3);
        check.due("compare a, b", compared("a", "b"), 0);
        check.due("compare 2*a, a+a", compared("2*a", "a+a"), 3);
        check.due("compare a*b, a*b", compared("a*b", "a*b"), 0);
        check.due("compare a*b, a*b at a point", compared("a*b", "a*b", 256, 256, 512, 512), 3);
        check.due("compare a, 0 from 0", compared("a", "0"), 0);
        check.due("compare a, 0 from 1", compared("a", "0", 1, 256), 1);
        check.due("compare a, 0 to 0", compared("a", "0", -256, 0), 0);
        check.due("compare a, 0 to -1", compared("a", "0", -256, -1), 2);
        check.due("compare 0.33, 0.33", compared("0.33", "0.33"), 0);
        check.due("compare 0.33, 0.34", compared("0.33", "0.34"), 2);
        check.due("compare a/1, a", compared("a/1", "a"), 3);
        // The forms of both are there at once, so the second one's square has another name than the first one's.
        check.due("compare a^2+1, a^2", compared("a^2+1", "a^2"), 1);
        check.due("compare a^2+0.25, a^2", compared("a^2+0.25", "a^2"), 0);
        check.due("compare a^2, a^2", compared("a^2", "a^2"), 0);
        AffineRanges x = Calls.with("a^3");
        check.due("compare(0, 0) of a^3", x.compare(0, 0), 0);
    }

    private static void wrongComparisons(Check check) {
        AffineRanges x = Calls.with("1/a");
        Calls.load(x, 1, "b");
        check.due("compare(0, 1)", x.compare(0, 1), -5);
        check.due("compare(1, 0)", x.compare(1, 0), -5);
        check.due("compare(1, 1)", x.compare(1, 1), 3);
        check.due("compare(0, 2)", x.compare(0, 2), -1);
        check.due("compare(2, 0)", x.compare(2, 0), -1);
        check.due("compare(2, 3)", x.compare(2, 3), -1);
        for (int e : Calls.BAD_NUMBERS) {
            check.due("compare(" + e + ", 1)", x.compare(e, 1), -1);
            check.due("compare(1, " + e + ")", x.compare(1, e), -1);
        }
    }
}
