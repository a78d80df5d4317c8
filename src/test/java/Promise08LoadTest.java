/** Promise 8: load. */
final class Promise08LoadTest {
    private Promise08LoadTest() {
    }

    @Says("- `expression`: 0 to 3")
    static void firstAndLastNumber(Check check) {
        AffineRanges x = new AffineRanges();
        check.due("load(3)", Calls.load(x, 3, "a"), 1);
        check.due("count(0)", x.count(0), 8);
        check.due("load(0)", Calls.load(x, 0, "b"), 1);
        check.due("count(0)", x.count(0), 9);
        check.due("step(3, 0, 0)", x.step(3, 0, 0), 1);
        check.due("step(0, 0, 0)", x.step(0, 0, 0), 2);
    }

    @Says("NO_SUCH if expression is out of range")
    static void outOfRange(Check check) {
        AffineRanges x = new AffineRanges();
        x.say('a');
        for (int e : Calls.BAD_NUMBERS) check.due("load(" + e + ")", x.load(e), -1);
        check.due("count(0)", x.count(0), 0);
        check.due("count(1)", x.count(1), 1);
    }

    @Says("Up to four expressions can be kept, numbered 0 to 3.")
    static void fourAtOnce(Check check) {
        AffineRanges x = new AffineRanges();
        String[] texts = {"a", "b+1", "-c", "d^2"};
        for (int e = 0; e < 4; e++) Calls.load(x, e, texts[e]);
        check.due("count(0)", x.count(0), 15);
        int[] steps = {1, 3, 2, 2};
        for (int e = 0; e < 4; e++) {
            check.due("step(" + e + ", -1, 0)", x.step(e, -1, 0), steps[e]);
            check.due("step(" + e + ", 0, 0)", x.step(e, 0, 0), 1 + e);
        }
        x.say('a');
        check.due("load(4)", x.load(4), -1);
    }

    @Says("BAD_TEXT if the text is not correct.")
    static void wrongTexts(Check check) {
        String[] texts = {"", "-", "a+", "a)", "(a", "00", "1.", "a^5", "ab", "L(a)", "A(a,b)", "?", "a+-b", "1000", "((((((((((((((((((((((((((((((((((((((((((((((((", "1.234", "a^2^2"};
        for (String text : texts) {
            AffineRanges x = new AffineRanges();
            check.due("load(1) of " + text, Calls.load(x, 1, text), -3);
            check.due("count(0)", x.count(0), 0);
            check.due("count(1)", x.count(1), text.length());
        }
    }

    @Says("BAD_TEXT if the text is not correct.")
    static void secondLoadOfAnEmptyPad(Check check) {
        AffineRanges x = new AffineRanges();
        x.say('a');
        check.due("load(0)", x.load(0), 1);
        check.due("load(0), again", x.load(0), -3);
        check.due("load(1)", x.load(1), -3);
        check.due("count(0)", x.count(0), 1);
    }

    @Says("it names its errors in the order in which they are checked, and the first that applies is returned")
    static void noSuchFirst(Check check) {
        AffineRanges x = new AffineRanges();
        check.due("load(4) of nothing", x.load(4), -1);
        check.due("load(-1) of nothing", x.load(-1), -1);
        check.due("load(3) of nothing", x.load(3), -3);
    }

    @Says("Returns the number of its steps")
    static void fewestSteps(Check check) {
        String[] texts = {"a", "7", "999.99", "(d)", "((((((0))))))"};
        for (String text : texts) check.due("load(0) of " + text, Calls.load(new AffineRanges(), 0, text), 1);
    }

    @Says("An expression has at most 60 steps (which texts of 48 characters cannot exceed).")
    static void mostSteps(Check check) {
        AffineRanges x = new AffineRanges();
        String text = "-" + "a^3*".repeat(11) + "d^3";
        check.due("its length", text.length(), 48);
        check.due("load(0)", Calls.load(x, 0, text), 60);
        check.due("step(0, -1, 0)", x.step(0, -1, 0), 60);
        check.due("step(0, 59, 0)", x.step(0, 59, 0), 7);
        check.due("step(0, 58, 0)", x.step(0, 58, 0), 9);
        check.due("step(0, 0, 0)", x.step(0, 0, 0), 1);
        check.due("step(0, 54, 0)", x.step(0, 54, 0), 4);
        check.due("inputs(0)", x.inputs(0), 9);
        // Over 1 each step makes 1, but the last one -1.
        Calls.over(x, 256, 256, 256, 256, 256, 256, 256, 256);
        check.due("bound(0, 2, 0)", x.bound(0, 2, 0), -256);
    }

    @Says("a text of at most 48 characters")
    static void longestTexts(Check check) {
        String[] texts = {"a+".repeat(23) + "10", "(".repeat(23) + "10" + ")".repeat(23), "L(a,".repeat(9) + "d^3" + ")".repeat(9), "A(".repeat(15) + "d^2" + ")".repeat(15),
            "a+b*(".repeat(7) + "1.25*d" + ")".repeat(7), "G(a+b,".repeat(6) + "-1.55" + ")".repeat(6)};
        int[] steps = {47, 1, 22, 17, 31, 26};
        for (int i = 0; i < texts.length; i++) {
            AffineRanges x = new AffineRanges();
            check.that(texts[i] + " is of at most 48", texts[i].length() <= 48 && texts[i].length() >= 47);
            check.due("load(2) of " + texts[i], Calls.load(x, 2, texts[i]), steps[i]);
            check.due("reason(2) of " + texts[i], x.reason(2), 0);
        }
    }

    @Says("in place of the one that had this number")
    static void inPlaceOfAnother(Check check) {
        AffineRanges x = Calls.with("a*b-c");
        Calls.load(x, 1, "d");
        check.due("load(0) of 2.5", Calls.load(x, 0, "2.5"), 1);
        check.due("step(0, -1, 0)", x.step(0, -1, 0), 1);
        check.due("step(0, 0, 1)", x.step(0, 0, 1), 250);
        check.due("step(0, 1, 0)", x.step(0, 1, 0), -1);
        check.due("inputs(0)", x.inputs(0), 0);
        check.due("bound(0, 2, 1)", x.bound(0, 2, 1), 640);
        check.due("count(0)", x.count(0), 3);
        check.due("step(1, 0, 0)", x.step(1, 0, 0), 4);
    }

    @Says("and empties the pad.")
    static void emptiesThePad(Check check) {
        AffineRanges x = new AffineRanges();
        Calls.say(x, "a+b");
        check.due("load(0)", x.load(0), 3);
        check.due("count(1)", x.count(1), 0);
        check.due("fault()", x.fault(), 0);
        check.due("say(99)", x.say(99), 1);
        check.due("load(1)", x.load(1), 1);
        check.due("step(1, 0, 0)", x.step(1, 0, 0), 3);
    }

    @Says("A call that returns an error code changes nothing.")
    static void wrongTextStaysAndTheExpressionToo(Check check) {
        AffineRanges x = Calls.with("a*b");
        Calls.say(x, "1+c*");
        check.due("load(0)", x.load(0), -3);
        check.due("count(1)", x.count(1), 4);
        check.due("fault()", x.fault(), 4);
        check.due("step(0, -1, 0)", x.step(0, -1, 0), 3);
        check.due("step(0, 0, 0)", x.step(0, 0, 0), 1);
        check.due("step(0, 2, 0)", x.step(0, 2, 0), 9);
        x.say('d');
        check.due("load(0) then", x.load(0), 5);
    }

    @Says("A call that returns an error code changes nothing.")
    static void refusedCallChangesNothing(Check check) {
        Twins.changesNothing(check, "load(4)", -1, x -> x.load(4));
        Twins.changesNothing(check, "load(-1)", -1, x -> x.load(-1));
        Twins.changesNothing(check, "load(0) of a wrong text, put right", -3, x -> {
            x.wipe();
            Calls.say(x, "a^2+c)");
            int answer = x.load(0);
            x.wipe();
            Calls.say(x, "a+2.5");
            return answer;
        });
    }
}
