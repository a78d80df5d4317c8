/** Promises 19 to 22: prove, proof, tighten, roots; the numbers are worked out by hand. */
final class SplittingTest {
    private SplittingTest() {
    }

    static void run(Check check) {
        proved(check);
        refuted(check);
        open(check);
        splitting(check);
        wrongProofs(check);
        proofStays(check);
        tightened(check);
        wildTightened(check);
        wrongTightened(check);
        rootsOf(check);
        wrongRoots(check);
    }

    /** The count, then the box that was taken last. */
    private static void proof(Check check, String name, AffineRanges x, long... want) {
        for (int i = 0; i < want.length; i++) check.due(name + ": proof(" + i + ")", x.proof(i), want[i]);
    }

    private static void proved(Check check) {
        AffineRanges x = Calls.with("a");
        check.due("a > -1", x.prove(0, -1, 1), 1);
        proof(check, "a > -1", x, 1, 0, 0, 0, 0, 256, 256, 256, 256);
        x = Calls.over(Calls.with("a*a"), -256, 256);
        check.due("a*a > -1 in two", x.prove(0, -1, 2), 1);
        // The boxes that are done are counted beyond most.
        proof(check, "a*a > -1", x, 3, 0, 0, 0, 0, 256, 256, 256, 256);
        check.due("a*a > -1 in one", x.prove(0, -1, 1), 3);
        proof(check, "a*a > -1 in one", x, 1, -256, 0, 0, 0, 256, 256, 256, 256);
        check.due("a*a > -257", x.prove(0, -257, 1), 1);
        check.due("a*a > -1000000", x.prove(0, -1000000, 200), 1);
    }

    private static void refuted(Check check) {
        AffineRanges x = Calls.with("a");
        check.due("a > 128", x.prove(0, 128, 1), 2);
        proof(check, "a > 128", x, 1, 0, 0, 0, 0, 256, 256, 256, 256);
        check.due("a > 127", x.prove(0, 127, 200), 2);
        proof(check, "a > 127", x, 2, 0, 0, 0, 0, 128, 256, 256, 256);
        check.due("a > 127 in one", x.prove(0, 127, 1), 3);
        check.due("a > 1000000", x.prove(0, 1000000, 1), 2);
        check.due("a > 0", x.prove(0, 0, 200), 2);
        // 0 to 256, 128, 64, .. 1: the middle of 0 to 1 is 0.
        proof(check, "a > 0", x, 9, 0, 0, 0, 0, 1);
    }

    private static void open(Check check) {
        AffineRanges x = Calls.with("0.33");
        check.due("0.33 > 84", x.prove(0, 84, 5), 3);
        // Nothing tells which input to split, so it is the widest, the lowest of several; the first part comes first.
        proof(check, "0.33 > 84", x, 5, 0, 0, 0, 0, 128, 128, 128, 128);
        check.due("0.33 > 84 in 4", x.prove(0, 84, 4), 3);
        proof(check, "0.33 > 84 in 4", x, 4, 0, 0, 0, 0, 128, 128, 128, 256);
        check.due("0.33 > 83", x.prove(0, 83, 1), 1);
        check.due("0.33 > 85", x.prove(0, 85, 1), 2);
        Calls.over(x, 5, 5, 6, 6, 7, 7, 8, 8);
        check.due("0.33 > 84 at a point", x.prove(0, 84, 200), 3);
        proof(check, "0.33 > 84 at a point", x, 1, 5, 6, 7, 8, 5, 6, 7, 8);
        x = Calls.over(Calls.with("1/a"), 0, 256, 1, 1, 2, 2, 3, 3);
        check.due("1/a > 0", x.prove(0, 0, 200), 3);
        proof(check, "1/a > 0", x, 10, 0, 1, 2, 3, 0, 1, 2, 3);
        check.due("1/a > 0 in 10", x.prove(0, 0, 10), 3);
        check.due("1/a > 0 in 9", x.prove(0, 0, 9), 3);
        proof(check, "1/a > 0 in 9", x, 9, 0, 1, 2, 3, 1, 1, 2, 3);
        Calls.over(x, -256, 256);
        // The middle is 0, where the form is wild; then it is -128.
        check.due("1/a > 0, both signs", x.prove(0, 0, 200), 2);
        proof(check, "1/a > 0, both signs", x, 2, -256, 1, 2, 3, 0, 1, 2, 3);
    }

    private static void splitting(Check check) {
        // The coefficients are -128 and 256: input 1 is split. The first part is still open.
        AffineRanges x = Calls.with("2*b-a+1");
        check.due("2*b-a+1 > 0", x.prove(0, 0, 2), 3);
        proof(check, "2*b-a+1 > 0", x, 2, 0, 0, 0, 0, 256, 128, 256, 256);
        // The coefficients are 128 and -256. The first part is done, and counted, and then the second one is open.
        x = Calls.with("a-2*b+2");
        check.due("a-2*b+2 > 0", x.prove(0, 0, 2), 3);
        proof(check, "a-2*b+2 > 0", x, 3, 0, 128, 0, 0, 256, 256, 256, 256);
        // The absolute values are equal: input 0 is split.
        x = Calls.with("a-b+1");
        check.due("a-b+1 > 0", x.prove(0, 0, 2), 3);
        proof(check, "a-b+1 > 0", x, 2, 0, 0, 0, 0, 128, 256, 256, 256);
        x = Calls.with("b-a+1");
        check.due("b-a+1 > 0", x.prove(0, 0, 2), 3);
        proof(check, "b-a+1 > 0", x, 3, 128, 0, 0, 0, 256, 256, 256, 256);
        // No coefficient but that of a narrow input: it is split before wider ones.
        x = Calls.over(Calls.with("c+0.5"), 0, 512, 0, 256, -200, 100);
        check.due("c+0.5 > 0", x.prove(0, 0, 2), 3);
        proof(check, "c+0.5 > 0", x, 2, 0, 0, -200, 0, 512, 256, -50, 256);
        // No coefficient at all: the widest.
        x = Calls.over(Calls.with("R(c)-0.5"), 0, 10, 0, 900, 0, 256, -5, 895);
        check.due("R(c)-0.5 > -128", x.prove(0, -128, 2), 3);
        proof(check, "R(c)-0.5 > -128", x, 2, 0, 0, 0, -5, 10, 450, 256, 895);
        // A wild form: the widest, too.
        x = Calls.over(Calls.with("1/a"), -1, 2, 0, 2, 0, 5, 0, 4);
        check.due("1/a > 0", x.prove(0, 0, 2), 3);
        proof(check, "1/a > 0", x, 2, -1, 0, 0, 0, 2, 2, 2, 4);
        // lo to lo + 1 becomes lo to lo and lo + 1 to lo + 1.
        x = Calls.over(Calls.with("a^2+0.33"), 6, 7, 0, 0, 0, 0, 0, 0);
        check.due("a^2+0.33 > 84", x.prove(0, 84, 9), 3);
        proof(check, "a^2+0.33 > 84", x, 2, 6, 0, 0, 0, 6, 0, 0, 0);
        x = Calls.over(Calls.with("b*256"), 0, 0, -8, -7, 0, 0, 0, 0);
        check.due("b*256 > -2100", x.prove(0, -2049, 9), 1);
        // The second part is taken after the first one.
        x = Calls.over(Calls.with("100-a"), 0, 51200);
        check.due("100-a > 0", x.prove(0, 0, 50), 2);
        proof(check, "100-a > 0", x, 1, 0);
        check.due("100-a > -12800", x.prove(0, -12800, 50), 2);
        proof(check, "100-a > -12800", x, 3, 25600, 0, 0, 0, 51200);
    }

    private static void wrongProofs(Check check) {
        AffineRanges x = Calls.with("a");
        for (int e : Calls.BAD_NUMBERS) check.due("prove(" + e + ", 0, 0)", x.prove(e, 0, 0), -1);
        check.due("prove(1, 0, 1)", x.prove(1, 0, 1), -1);
        check.due("prove(0, 1000001, 1)", x.prove(0, 1000001, 1), -2);
        check.due("prove(0, -1000001, 1)", x.prove(0, -1000001, 1), -2);
        check.due("prove(0, max, 1)", x.prove(0, Integer.MAX_VALUE, 1), -2);
        check.due("prove(0, min, 1)", x.prove(0, Integer.MIN_VALUE, 1), -2);
        check.due("prove(0, 0, 0)", x.prove(0, 0, 0), -2);
        check.due("prove(0, 0, 201)", x.prove(0, 0, 201), -2);
        check.due("prove(0, 0, -1)", x.prove(0, 0, -1), -2);
        check.due("proof(0)", x.proof(0), Calls.NONE);
        check.due("proof(8)", x.proof(8), Calls.NONE);
        check.due("proof(9)", x.proof(9), Calls.BAD_VALUE);
        check.due("proof(-1)", x.proof(-1), Calls.BAD_VALUE);
        check.due("proof(max)", x.proof(Integer.MAX_VALUE), Calls.BAD_VALUE);
        check.due("prove(0, 1000000, 200)", x.prove(0, 1000000, 200), 2);
        check.due("prove(0, -1000000, 1)", x.prove(0, -1000000, 1), 1);
        check.due("proof(9)", x.proof(9), Calls.BAD_VALUE);
        check.due("proof(min)", x.proof(Integer.MIN_VALUE), Calls.BAD_VALUE);
    }

    private static void proofStays(Check check) {
        AffineRanges x = Calls.over(Calls.with("a*a"), -256, 256);
        x.save(0);
        check.due("a*a > -1", x.prove(0, -1, 9), 1);
        x.prove(2, 0, 1);
        x.prove(0, 0, 0);
        x.prove(0, 1000001, 3);
        proof(check, "behind calls that fail", x, 3, 0, 0, 0, 0, 256, 256, 256, 256);
        x.setDomain(0, 5, 6);
        x.tighten(0, 9, 0);
        x.roots(0, 1, 9);
        x.sample(0, 33, 0);
        x.restore(0);
        Calls.load(x, 0, "b");
        proof(check, "behind other calls", x, 3, 0, 0, 0, 0, 256, 256, 256, 256);
        x.prove(0, -1, 1);
        proof(check, "behind another proof", x, 1, -256, 0, 0, 0, 256, 256, 256, 256);
    }

    private static void tightened(Check check) {
        AffineRanges x = Calls.with("a*(1-a)");
        long[] uppers = {128, 96, 96, 72};
        for (int i = 0; i < uppers.length; i++) check.due("a*(1-a), upper, " + i, x.tighten(0, i, 1), uppers[i]);
        for (int i = 0; i < 4; i++) check.due("a*(1-a), lower, " + i, x.tighten(0, i, 0), 0);
        x = Calls.over(Calls.with("a*a"), -256, 256);
        check.due("a*a, lower, 0", x.tighten(0, 0, 0), -256);
        check.due("a*a, lower, 1", x.tighten(0, 1, 0), 0);
        check.due("a*a, upper, 9", x.tighten(0, 9, 1), 256);
        check.due("the box stays", x.domain(0, 0), 999744);
        check.due("there is no proof", x.proof(0), Calls.NONE);
        x = Calls.over(Calls.with("a"), 5, 5, 5, 5, 5, 5, 5, 5);
        check.due("a point", x.tighten(0, 100, 0), 5);
        check.due("a point", x.tighten(0, 100, 1), 5);
        // a - a*a on 0 to 2 / 256, to the end: 0, 1 and 2 alone.
        x = Calls.over(Calls.with("256*a-a*a*128"), 0, 2, 0, 0, 0, 0, 0, 0);
        check.due("three points, upper", x.tighten(0, 100, 1), 512);
        check.due("three points, lower", x.tighten(0, 100, 0), 0);
    }

    private static void wildTightened(Check check) {
        AffineRanges x = Calls.over(Calls.with("1/a"), 0, 256);
        for (int i = 0; i <= 100; i += 25) check.due("1/a, " + i, x.tighten(0, i, 0), Calls.NOT_POSSIBLE);
        // The divisor is (a - 1)^2 + 1/2; its best range is -128 to 384 at first, then twice 0 to 384, then from 160, 96, 96, 160.
        x = Calls.over(Calls.with("1/(a*(a-2)+1.5)"), 0, 512, 0, 0, 0, 0, 0, 0);
        check.due("wild, 0", x.tighten(0, 0, 1), Calls.NOT_POSSIBLE);
        check.due("both are wild, 1", x.tighten(0, 1, 1), Calls.NOT_POSSIBLE);
        check.due("one is wild, 2", x.tighten(0, 2, 1), Calls.NOT_POSSIBLE);
        check.due("none is wild, 3", x.tighten(0, 3, 1), 683);
    }

    private static void wrongTightened(Check check) {
        AffineRanges x = Calls.with("a");
        for (int e : Calls.BAD_NUMBERS) check.due("tighten(" + e + ", 101, 2)", x.tighten(e, 101, 2), Calls.NO_SUCH);
        check.due("tighten(1, 0, 0)", x.tighten(1, 0, 0), Calls.NO_SUCH);
        check.due("tighten(0, 101, 0)", x.tighten(0, 101, 0), Calls.BAD_VALUE);
        check.due("tighten(0, -1, 0)", x.tighten(0, -1, 0), Calls.BAD_VALUE);
        check.due("tighten(0, 0, 2)", x.tighten(0, 0, 2), Calls.BAD_VALUE);
        check.due("tighten(0, 0, -1)", x.tighten(0, 0, -1), Calls.BAD_VALUE);
        check.due("tighten(0, 100, 1)", x.tighten(0, 100, 1), 256);
    }

    private static void rootsOf(Check check) {
        AffineRanges x = Calls.with("a-0.5");
        check.due("a-0.5, 1", x.roots(0, 0, 1), 1);
        check.due("a-0.5, 2", x.roots(0, 0, 2), 3);
        // 0 to 85, 85 to 170, 170 to 256
        check.due("a-0.5, 3", x.roots(0, 0, 3), 2);
        check.due("a-0.5, 16", x.roots(0, 0, 16), 0x180);
        check.due("a-0.5 by b, 16", x.roots(0, 1, 16), 0xffff);
        check.due("a-0.5 by d, 5", x.roots(0, 3, 5), 31);
        x = Calls.over(Calls.with("a"), -5, 5);
        // The width is 10: -5 to -2, -2 to 1, 1 to 5.
        check.due("a, 3", x.roots(0, 0, 3), 2);
        Calls.over(x, -1, 1);
        // The width is 2: -1, -1, -1 to 0, 0 for n = 4: -1 to -1, -1 to 0, 0 to 0, 0 to 1.
        check.due("a, 4", x.roots(0, 0, 4), 14);
        Calls.over(x, 0, 0);
        check.due("a at 0, 7", x.roots(0, 0, 7), 127);
        Calls.over(x, 1, 256);
        check.due("a from 1, 16", x.roots(0, 0, 16), 0);
        Calls.over(x, -100000, 100000);
        check.due("a, wide, 16", x.roots(0, 0, 16), 0x180);
        x = Calls.with("1/a");
        check.due("1/a, 2", x.roots(0, 0, 2), 1);
        check.due("1/a by b, 2", x.roots(0, 1, 2), 3);
        x = Calls.with("1/a-1/b");
        Calls.over(x, 256, 768, 384, 640);
        // 1/b is from 102 to 171; 1/a from 128 to 256 and from 85 to 128.
        check.due("1/a-1/b, 2", x.roots(0, 0, 2), 3);
        Calls.over(x, 256, 768, 600, 640);
        check.due("1/a-1/b, 2, apart", x.roots(0, 0, 2), 2);
        check.due("the box stays", x.domain(0, 1), 1000768);
    }

    private static void wrongRoots(Check check) {
        AffineRanges x = Calls.with("a");
        for (int e : Calls.BAD_NUMBERS) {
            check.due("roots(" + e + ", 0, 0)", x.roots(e, 0, 0), -1);
            check.due("roots(0, " + e + ", 17)", x.roots(0, e, 17), -1);
        }
        check.due("roots(1, 0, 1)", x.roots(1, 0, 1), -1);
        check.due("roots(0, 0, 0)", x.roots(0, 0, 0), -2);
        check.due("roots(0, 3, 17)", x.roots(0, 3, 17), -2);
        check.due("roots(0, 0, -1)", x.roots(0, 0, -1), -2);
        check.due("roots(0, 0, max)", x.roots(0, 0, Integer.MAX_VALUE), -2);
    }
}
