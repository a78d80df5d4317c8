/** Promise 6: wipe. */
final class Promise06WipeTest {
    private Promise06WipeTest() {
    }

    @Says("Returns the length that it had.")
    static void emptyPad(Check check) {
        AffineRanges x = new AffineRanges();
        check.due("wipe()", x.wipe(), 0);
        check.due("wipe(), again", x.wipe(), 0);
        Calls.load(x, 0, "a+b");
        check.due("wipe() behind load", x.wipe(), 0);
    }

    @Says("Returns the length that it had.")
    static void allLengths(Check check) {
        AffineRanges x = new AffineRanges();
        for (int length = 1; length <= 8; length++) {
            for (int i = 0; i < length; i++) x.say('~');
            check.due("wipe() of " + length, x.wipe(), length);
        }
        for (int i = 0; i < 48; i++) x.say('(');
        x.say('(');
        check.due("wipe() of a full pad", x.wipe(), 48);
    }

    @Says("Empties the pad.")
    static void emptyBehind(Check check) {
        AffineRanges x = new AffineRanges();
        Calls.say(x, "a*b)");
        check.due("wipe()", x.wipe(), 4);
        check.due("count(1)", x.count(1), 0);
        check.due("fault()", x.fault(), 0);
        check.due("load(0)", x.load(0), -3);
        check.due("wipe(), again", x.wipe(), 0);
        check.due("say(100)", x.say(100), 1);
        check.due("fault() of d", x.fault(), -6);
        check.due("load(0) of d", x.load(0), 1);
        check.due("step(0, 0, 0)", x.step(0, 0, 0), 4);
    }

    @Says("Empties the pad.")
    static void nothingElse(Check check) {
        Twins.changesNothing(check, "wipe() and the same again", 5, x -> {
            int length = x.wipe();
            Calls.say(x, "a+2.5");
            return length;
        });
    }
}
