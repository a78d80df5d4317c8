/** Promise 20: proof. */
final class Promise20ProofTest {
    private Promise20ProofTest() {
    }

    private static void proof(Check check, AffineRanges x, long... want) {
        for (int i = 0; i < want.length; i++) check.due("proof(" + i + ")", x.proof(i), want[i]);
    }

    @Says("- `what`: 0 for the number of boxes that were counted, 1 to 4 for lo of input 0 to 3 in the box that was taken last, 5 to 8 for hi")
    static void allNumbers(Check check) {
        AffineRanges x = Calls.over(Calls.with("0.33"), -10, 20, -11, 21, -12, 22, -13, 24);
        check.due("prove(0, 84, 1)", x.prove(0, 84, 1), 3);
        proof(check, x, 1, -10, -11, -12, -13, 20, 21, 22, 24);
        check.due("prove(0, 84, 4)", x.prove(0, 84, 4), 3);
        proof(check, x, 4, -10, -11, -12, -13, 20, 5, 5, 5);
    }

    @Says("1 to 4 for lo of input 0 to 3 in the box that was taken last")
    static void lastBoxOfEachResult(Check check) {
        AffineRanges x = Calls.over(Calls.with("a*a"), -256, 256);
        check.due("PROVED", x.prove(0, -1, 9), 1);
        proof(check, x, 3, 0, 0, 0, 0, 256, 256, 256, 256);
        check.due("OPEN", x.prove(0, -1, 1), 3);
        proof(check, x, 1, -256, 0, 0, 0, 256, 256, 256, 256);
        check.due("REFUTED", x.prove(0, 64, 9), 2);
        proof(check, x, 1, -256, 0, 0, 0, 256, 256, 256, 256);
        x.setDomain(0, 0, 100000);
        check.due("REFUTED later", x.prove(0, 1000000, 9), 2);
        proof(check, x, 3, 0, 0, 0, 0, 25000, 256, 256, 256);
    }

    @Says("NONE if there was no such call")
    static void noCall(Check check) {
        AffineRanges x = Calls.with("a");
        for (int what = 0; what <= 8; what++) check.due("proof(" + what + ")", x.proof(what), Calls.NONE);
    }

    @Says("NONE if there was no such call")
    static void failedCallsOnly(Check check) {
        AffineRanges x = Calls.with("a");
        x.prove(1, 0, 1);
        x.prove(0, 1000001, 1);
        x.prove(0, 0, 0);
        x.prove(0, 0, 201);
        for (int what = 0; what <= 8; what++) check.due("proof(" + what + ")", x.proof(what), Calls.NONE);
        x.tighten(0, 5, 0);
        x.roots(0, 0, 5);
        check.due("proof(0) behind other calls", x.proof(0), Calls.NONE);
        x.prove(0, 0, 1);
        check.due("proof(0) then", x.proof(0), 1);
    }

    @Says("BAD_VALUE if what is not 0 to 8.")
    static void outOfRange(Check check) {
        AffineRanges x = Calls.with("a");
        int[] wrong = {Integer.MIN_VALUE, -2, -1, 9, 10, 256, Integer.MAX_VALUE};
        x.prove(0, 0, 1);
        for (int what : wrong) check.due("proof(" + what + ")", x.proof(what), Calls.BAD_VALUE);
        proof(check, x, 1, 0, 0, 0, 0, 256, 256, 256, 256);
    }

    @Says("is not an error; it is returned only if no error applies")
    static void badValueBeforeNone(Check check) {
        AffineRanges x = new AffineRanges();
        int[] wrong = {Integer.MIN_VALUE, -1, 9, Integer.MAX_VALUE};
        for (int what : wrong) check.due("proof(" + what + ")", x.proof(what), Calls.BAD_VALUE);
        check.due("proof(8)", x.proof(8), Calls.NONE);
    }

    @Says("Returns something about the latest call of prove() that did not fail.")
    static void latestCall(Check check) {
        AffineRanges x = Calls.with("a");
        x.prove(0, 0, 200);
        proof(check, x, 9, 0, 0, 0, 0, 1, 256, 256, 256);
        x.setDomain(3, -7, 7);
        x.prove(0, -1, 200);
        proof(check, x, 1, 0, 0, 0, -7, 256, 256, 256, 7);
    }

    @Says("Returns something about the latest call of prove() that did not fail.")
    static void failedCallsDoNotCount(Check check) {
        AffineRanges x = Calls.with("a");
        x.prove(0, 0, 200);
        x.setDomain(1, 5, 6);
        check.due("prove(1, 0, 1)", x.prove(1, 0, 1), -1);
        proof(check, x, 9, 0, 0, 0, 0, 1, 256, 256, 256);
        check.due("prove(0, -1000001, 1)", x.prove(0, -1000001, 1), -2);
        proof(check, x, 9, 0, 0, 0, 0, 1, 256, 256, 256);
        check.due("prove(0, 0, 201)", x.prove(0, 0, 201), -2);
        proof(check, x, 9, 0, 0, 0, 0, 1, 256, 256, 256);
    }

    @Says("Returns something about the latest call of prove() that did not fail.")
    static void otherCallsDoNotCount(Check check) {
        AffineRanges x = Calls.with("a");
        x.save(0);
        x.prove(0, 0, 200);
        x.setDomain(0, 5, 6);
        x.tighten(0, 20, 0);
        x.sample(0, 255, 1);
        x.roots(0, 1, 16);
        x.compare(0, 0);
        x.setSymbols(0);
        Calls.load(x, 0, "b");
        x.restore(0);
        x.save(1);
        proof(check, x, 9, 0, 0, 0, 0, 1, 256, 256, 256);
    }

    @Says("A call that returns an error code changes nothing.")
    static void changesNothing(Check check) {
        Twins.changesNothing(check, "proof(9)", Calls.BAD_VALUE, x -> x.proof(9));
        Twins.changesNothing(check, "proof(-1)", Calls.BAD_VALUE, x -> x.proof(-1));
    }
}
