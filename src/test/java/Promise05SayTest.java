/** Promise 5: say. */
final class Promise05SayTest {
    private Promise05SayTest() {
    }

    private static AffineRanges full() {
        AffineRanges x = new AffineRanges();
        for (int i = 0; i < 24; i++) Calls.say(x, "a+");
        return x;
    }

    @Says("Appends a character to the pad.")
    static void appendedBehindTheOthers(Check check) {
        AffineRanges x = new AffineRanges();
        Calls.say(x, "a-b/2");
        check.due("load(0)", x.load(0), 5);
        int[] kinds = {1, 2, 0, 11, 6};
        for (int i = 0; i < 5; i++) check.due("step(0, " + i + ", 0)", x.step(0, i, 0), kinds[i]);
        check.due("step(0, 2, 1)", x.step(0, 2, 1), 200);
    }

    @Says("- `character`: its code, 33 to 126")
    static void leastCode(Check check) {
        AffineRanges x = new AffineRanges();
        check.due("say(32)", x.say(32), -2);
        check.due("say(33)", x.say(33), 1);
    }

    @Says("- `character`: its code, 33 to 126")
    static void greatestCode(Check check) {
        AffineRanges x = new AffineRanges();
        check.due("say(127)", x.say(127), -2);
        check.due("say(126)", x.say(126), 1);
    }

    @Says("- `character`: its code, 33 to 126")
    static void allCodes(Check check) {
        for (int c = 33; c <= 126; c++) check.due("say(" + c + ")", new AffineRanges().say(c), 1);
    }

    @Says("BAD_VALUE if the code is out of range")
    static void outOfRange(Check check) {
        AffineRanges x = new AffineRanges();
        int[] wrong = {Integer.MIN_VALUE, -97, -1, 0, 9, 10, 13, 31, 32, 127, 128, 160, 255, 97 + 256, 97 + 65536, Integer.MAX_VALUE};
        for (int c : wrong) check.due("say(" + c + ")", x.say(c), -2);
        check.due("count(1)", x.count(1), 0);
    }

    @Says("Returns the length of the pad then")
    static void lengthsUpToFortyEight(Check check) {
        AffineRanges x = new AffineRanges();
        for (int i = 1; i <= 48; i++) check.due("say(97) as number " + i, x.say(97), i);
    }

    @Says("TOO_MANY if the pad has 48 characters.")
    static void fullPad(Check check) {
        AffineRanges x = full();
        check.due("count(1)", x.count(1), 48);
        check.due("say(97)", x.say(97), -4);
        check.due("say(33)", x.say(33), -4);
        check.due("say(126)", x.say(126), -4);
        check.due("wipe()", x.wipe(), 48);
        check.due("say(97) then", x.say(97), 1);
    }

    @Says("TOO_MANY if the pad has 48 characters.")
    static void almostFullPad(Check check) {
        AffineRanges x = new AffineRanges();
        for (int i = 0; i < 47; i++) x.say('(');
        check.due("say(97) as number 48", x.say(97), 48);
        check.due("say(97) as number 49", x.say(97), -4);
    }

    @Says("TOO_MANY if the pad has 48 characters.")
    static void roomAgainBehindLoad(Check check) {
        AffineRanges x = new AffineRanges();
        for (int i = 0; i < 23; i++) Calls.say(x, "a+");
        Calls.say(x, "10");
        check.due("say(97)", x.say(97), -4);
        check.due("load(0)", x.load(0), 47);
        check.due("say(97) behind load", x.say(97), 1);
    }

    @Says("it names its errors in the order in which they are checked, and the first that applies is returned")
    static void wrongCodeToAFullPad(Check check) {
        AffineRanges x = full();
        check.due("say(32)", x.say(32), -2);
        check.due("say(127)", x.say(127), -2);
        check.due("say(126)", x.say(126), -4);
    }

    @Says("A call that returns an error code changes nothing.")
    static void refusedCallChangesNothing(Check check) {
        Twins.changesNothing(check, "say(32)", -2, x -> x.say(32));
        Twins.changesNothing(check, "say(127)", -2, x -> x.say(127));
        AffineRanges x = full();
        check.due("say(97)", x.say(97), -4);
        check.due("count(1)", x.count(1), 48);
        check.due("fault()", x.fault(), 48);
        x.wipe();
        for (int i = 0; i < 48; i++) x.say("1.25+a-b*c/d^3-L(a,b)+G(c,d)-A(a)+R(b)-2.5*a*b*c".charAt(i));
        check.due("say(100)", x.say(100), -4);
        check.due("load(0)", x.load(0), 34);
        check.due("step(0, 33, 0)", x.step(0, 33, 0), 6);
    }
}
