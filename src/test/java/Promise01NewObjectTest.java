/** Promise 1: a new object. */
final class Promise01NewObjectTest {
    private Promise01NewObjectTest() {
    }

    @Says("Creates it without expressions.")
    static void noExpressions(Check check) {
        AffineRanges x = new AffineRanges();
        check.due("count(0)", x.count(0), 0);
        for (int e = 0; e < 4; e++) {
            check.due("step(" + e + ", -1, 0)", x.step(e, -1, 0), -1);
            check.due("inputs(" + e + ")", x.inputs(e), -1);
            check.due("reason(" + e + ")", x.reason(e), -1);
            check.due("bound(" + e + ", 0, 0)", x.bound(e, 0, 0), Calls.NO_SUCH);
            check.due("part(" + e + ", 12)", x.part(e, 12), Calls.NO_SUCH);
            check.due("trace(" + e + ", 0, 0)", x.trace(e, 0, 0), Calls.NO_SUCH);
            check.due("dominant(" + e + ")", x.dominant(e), -1);
            check.due("gain(" + e + ")", x.gain(e), Calls.NO_SUCH);
            check.due("sample(" + e + ", 0, 0)", x.sample(e, 0, 0), Calls.NO_SUCH);
            check.due("compare(" + e + ", " + e + ")", x.compare(e, e), -1);
            check.due("prove(" + e + ", 0, 1)", x.prove(e, 0, 1), -1);
            check.due("tighten(" + e + ", 0, 0)", x.tighten(e, 0, 0), Calls.NO_SUCH);
            check.due("roots(" + e + ", 0, 1)", x.roots(e, 0, 1), -1);
        }
    }

    @Says("Each has a domain from lo to hi, initially from 0 to 256.")
    static void firstDomains(Check check) {
        AffineRanges x = new AffineRanges();
        for (int i = 0; i < 4; i++) {
            check.due("domain(" + i + ", 0)", x.domain(i, 0), 1000000);
            check.due("domain(" + i + ", 1)", x.domain(i, 1), 1000256);
        }
        check.due("count(3)", x.count(3), 4);
    }

    @Says("a text of at most 48 characters, which is empty initially")
    static void emptyPad(Check check) {
        AffineRanges x = new AffineRanges();
        check.due("count(1)", x.count(1), 0);
        check.due("fault()", x.fault(), 0);
        check.due("load(0)", x.load(0), -3);
        check.due("wipe()", x.wipe(), 0);
        check.due("say(97)", x.say(97), 1);
    }

    @Says("tells how many of the symbols from 4 on may be used; it is 4 initially.")
    static void fourSymbols(Check check) {
        AffineRanges x = new AffineRanges();
        check.due("count(2)", x.count(2), 4);
        Calls.load(x, 0, "a^2+b^2+c^2+d^2");
        for (int s = 4; s < 8; s++) check.due("part(0, " + s + ")", x.part(0, s), 32);
        Calls.load(x, 0, "a^2+b^2+c^2+d^2+a^2");
        // The fifth square finds no free symbol: the fourth's weight is like the others', so the lowest is condensed.
        check.due("part(0, 4)", x.part(0, 4), 32);
        check.due("part(0, 8)", x.part(0, 8), 0);
        check.due("part(0, 13)", x.part(0, 13), 32);
        check.due("setSymbols(4)", x.setSymbols(4), 4);
    }

    @Says("An object is used for at most 512 calls after it has been made")
    static void fiveHundredAndTwelveCalls(Check check) {
        AffineRanges x = new AffineRanges();
        String text = "a*b*c-b*a*c";
        for (int i = 0; i < 11; i++) x.say(text.charAt(i));
        x.load(0);
        // 12 calls are made, and 499 follow; the last one answers like the first one.
        for (int i = 0; i < 499; i++) {
            if (i % 4 == 0) x.prove(0, -1, 200);
            if (i % 4 == 1) x.tighten(0, 100, 1);
            if (i % 4 == 2) x.roots(0, 2, 16);
            if (i % 4 == 3) x.compare(0, 0);
        }
        check.due("the 512th call", x.bound(0, 0, 0), boundOf(text));
    }

    private static long boundOf(String text) {
        return Calls.with(text).bound(0, 0, 0);
    }

    @Says("proof(0) = -1000000000000000006")
    static void noProof(Check check) {
        AffineRanges x = new AffineRanges();
        for (int what = 0; what <= 8; what++) check.due("proof(" + what + ")", x.proof(what), Calls.NONE);
    }

    @Says("Creates it without expressions.")
    static void nothingSaved(Check check) {
        AffineRanges x = new AffineRanges();
        check.due("restore(0)", x.restore(0), -5);
        check.due("restore(1)", x.restore(1), -5);
    }

    @Says("Each of them begins with a new object")
    static void noTraceOfAnother(Check check) {
        AffineRanges other = Twins.used();
        other.save(0);
        AffineRanges x = new AffineRanges();
        check.due("count(0)", x.count(0), 0);
        check.due("count(1)", x.count(1), 0);
        check.due("count(2)", x.count(2), 4);
        check.due("count(3)", x.count(3), 4);
        check.due("domain(0, 0)", x.domain(0, 0), 1000000);
        check.due("proof(0)", x.proof(0), Calls.NONE);
        check.due("restore(0)", x.restore(0), -5);
        // Nor does the new one change the other one.
        Calls.load(x, 0, "7");
        x.setDomain(0, 1, 2);
        x.setSymbols(0);
        x.prove(0, 0, 1);
        check.due("the other's count(2)", other.count(2), 3);
        check.due("the other's domain(0, 0)", other.domain(0, 0), 999700);
        check.due("the other's step(0, 0, 0)", other.step(0, 0, 0), 1);
        check.due("the other's proof(1)", other.proof(1) == 0 ? 0 : 1, 1);
    }
}
