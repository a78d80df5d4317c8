/** Promises 5 to 10: say, wipe, fault, load, step, inputs. */
final class TextsTest {
    private static final int OK = -6;

    private TextsTest() {
    }

    static void run(Check check) {
        say(check);
        wipe(check);
        correctTexts(check);
        faults(check);
        load(check);
        steps(check);
        values(check);
        wrongSteps(check);
        mostSteps(check);
        inputs(check);
    }

    private static void say(Check check) {
        AffineRanges x = new AffineRanges();
        int[] wrong = {Integer.MIN_VALUE, -1, 0, 9, 10, 31, 32, 127, 128, 255, 97 + 256, 97 + 65536, Integer.MAX_VALUE};
        for (int c : wrong) check.due("say(" + c + ")", x.say(c), -2);
        check.due("say(33)", x.say(33), 1);
        check.due("say(126)", x.say(126), 2);
        for (int i = 3; i <= 48; i++) check.due("say(40) as number " + i, x.say(40), i);
        check.due("say(40) to a full pad", x.say(40), -4);
        check.due("say(32) to a full pad", x.say(32), -2);
        check.due("count(1) of a full pad", x.count(1), 48);
    }

    private static void wipe(Check check) {
        AffineRanges x = new AffineRanges();
        check.due("wipe() of nothing", x.wipe(), 0);
        Calls.say(x, "a+b");
        check.due("wipe()", x.wipe(), 3);
        check.due("wipe() again", x.wipe(), 0);
        check.due("fault() behind wipe()", x.fault(), 0);
        check.due("say(97) behind wipe()", x.say(97), 1);
        check.due("fault() of the new text", x.fault(), OK);
    }

    private static void fault(Check check, String text, int want) {
        AffineRanges x = new AffineRanges();
        Calls.say(x, text);
        check.due("fault of " + text, x.fault(), want);
        check.due("fault of " + text + ", again", x.fault(), want);
        int loaded = x.load(2);
        check.that("load of " + text + " answered " + loaded, want == OK ? loaded > 0 : loaded == -3);
        check.due("pad behind load of " + text, x.count(1), want == OK ? 0 : text.length());
        check.due("expressions behind load of " + text, x.count(0), want == OK ? 4 : 0);
    }

    private static void correctTexts(Check check) {
        String[] texts = {
            "a", "d", "0", "9", "10", "999", "0.0", "0.00", "0.5", "0.05", "7.25", "100.99", "-a", "-1", "(-a)", "-(-a)",
            "a+b-c", "a*b/c", "-a*b", "a^2", "a^3", "a^4", "2^2", "1.5^3", "(a)^4", "(a^2)^2", "A(a)", "R(a)", "L(a,b)", "G(a,b)",
            "A(-a)^2", "L(-a,-b)", "L((a),G(b,c))", "L(a+b,c*d)^3", "((((a))))", "G(L(a,b),L(c,d))", "A(R(A(R(a))))", "0/0", "a-(-b)",
        };
        for (String text : texts) fault(check, text, OK);
    }

    private static void faults(Check check) {
        Object[][] texts = {
            {"", 0}, {"-", 1}, {"+", 0}, {"+a", 0}, {"*", 0}, {"--a", 1}, {"-+a", 1}, {"e", 0}, {"B", 0}, {"l(a,b)", 0}, {"r(a)", 0}, {"a(b)", 1},
            {"a+", 2}, {"a+-b", 2}, {"a*-b", 2}, {"a--b", 2}, {"a**b", 2}, {"ab", 1}, {"a1", 1}, {"1a", 1}, {"a b", 1}, {"a.", 1}, {"^2", 0},
            {"a^", 2}, {"a^1", 2}, {"a^5", 2}, {"a^0", 2}, {"a^-2", 2}, {"a^(2)", 2}, {"a^22", 3}, {"a^2^2", 3}, {"a^2b", 3}, {"a^2.5", 3}, {"a^2(", 3},
            {"01", 1}, {"00", 1}, {"007", 1}, {"0.", 2}, {"1.", 2}, {".5", 0}, {"1..5", 2}, {"1.5.5", 3}, {"1.234", 4}, {"0.123", 4}, {"1000", 3},
            {"9999", 3}, {"1000.5", 3}, {"1.a", 2}, {"1.)", 2}, {"12(", 2}, {"a+01", 3}, {"a+0.", 4}, {"1.^2", 2},
            {"(", 1}, {"()", 1}, {"(a", 2}, {"(a))", 3}, {"a)", 1}, {")", 0}, {"((a)", 4}, {"(a,b)", 2}, {"a,b", 1}, {",", 0}, {"(-)", 2}, {"(a)(b)", 3}, {"(a)b", 3}, {"a(", 1},
            {"A", 1}, {"Aa", 1}, {"A^2", 1}, {"A(", 2}, {"A()", 2}, {"A(a", 3}, {"A(a,b)", 3}, {"R(a,", 3}, {"AA(a)", 1}, {"A(a)(", 4},
            {"L", 1}, {"G", 1}, {"L(", 2}, {"L(a", 3}, {"L(a)", 3}, {"L(a,", 4}, {"L(,", 2}, {"L(a,b", 5}, {"L(a,b,c)", 5}, {"G(a,b,", 5}, {"L(a,,", 4}, {"L(a,)", 4}, {"L(a,b))", 6},
            {"L((a,b),c)", 4}, {"L(G(a,b),c", 10}, {"L(G(a),", 5}, {"(L(a,b,", 6}, {"A(L(a,b)", 8}, {"L(A(a,", 5}, {"G(a+,", 4}, {"L(a*b^,", 6},
            {"((((((((((((((((((((((((((((((((((((((((((((((((", 48}, {"-(-(-(-(-(", 10}, {"A(A(A(A(A(A(A(A(A(A(A(A(A(A(A(A(A(A(A(A(A(A(A(A(", 48},
        };
        for (Object[] row : texts) {
            String text = (String) row[0];
            // A blank cannot be said, so the character behind it stands in its place.
            if (text.indexOf(' ') < 0) fault(check, text, (Integer) row[1]);
        }
        // Each character that can be said, where an operand and where an operator is due.
        for (int c = 33; c <= 126; c++) {
            boolean operand = "-(abcdARLG0123456789".indexOf(c) >= 0;
            boolean complete = "abcd0123456789".indexOf(c) >= 0;
            fault(check, "" + (char) c, complete ? OK : operand ? 1 : 0);
            fault(check, "a" + (char) c, "+-*/^".indexOf(c) >= 0 ? 2 : 1);
            fault(check, "a+" + (char) c, complete ? OK : operand && c != '-' ? 3 : 2);
            fault(check, "a^" + (char) c, "234".indexOf(c) >= 0 ? OK : 2);
            fault(check, "3.2" + (char) c, c >= '0' && c <= '9' ? OK : "+-*/^".indexOf(c) >= 0 ? 4 : 3);
            fault(check, "L" + (char) c, c == '(' ? 2 : 1);
        }
    }

    private static void load(Check check) {
        AffineRanges x = new AffineRanges();
        Calls.say(x, "a+");
        for (int e : Calls.BAD_NUMBERS) check.due("load(" + e + ")", x.load(e), -1);
        check.due("load(3) of a+", x.load(3), -3);
        check.due("count(0)", x.count(0), 0);
        check.due("count(1)", x.count(1), 2);
        x.say('b');
        check.due("load(3) of a+b", x.load(3), 3);
        check.due("count(0)", x.count(0), 8);
        check.due("count(1)", x.count(1), 0);
        check.due("load(3) of nothing", x.load(3), -3);
        check.due("step(3, -1, 0) stays", x.step(3, -1, 0), 3);
        check.due("load(3) of a shorter text", Calls.load(x, 3, "c"), 1);
        check.due("step(3, 0, 0)", x.step(3, 0, 0), 3);
        check.due("step(3, 1, 0)", x.step(3, 1, 0), -1);
        check.due("load(0)", Calls.load(x, 0, "R(a)"), 2);
        check.due("count(0)", x.count(0), 9);
        check.due("fault behind load", x.fault(), 0);
    }

    private static void steps(Check check, String text, int... kinds) {
        AffineRanges x = new AffineRanges();
        check.due("load of " + text, Calls.load(x, 1, text), kinds.length);
        check.due("number of steps of " + text, x.step(1, -1, 0), kinds.length);
        for (int i = 0; i < kinds.length; i++) check.due("step " + i + " of " + text, x.step(1, i, 0), kinds[i]);
    }

    private static void steps(Check check) {
        steps(check, "a", 1);
        steps(check, "d", 4);
        steps(check, "7", 0);
        steps(check, "a+b", 1, 2, 5);
        steps(check, "a-b+c", 1, 2, 6, 3, 5);
        steps(check, "a-b-c", 1, 2, 6, 3, 6);
        steps(check, "a-(b-c)", 1, 2, 3, 6, 6);
        steps(check, "a+b*c", 1, 2, 3, 9, 5);
        steps(check, "a*b+c", 1, 2, 9, 3, 5);
        steps(check, "a*b/c*d", 1, 2, 9, 3, 11, 4, 9);
        steps(check, "a/b/c", 1, 2, 11, 3, 11);
        steps(check, "-a", 1, 7);
        steps(check, "-a+b", 1, 7, 2, 5);
        steps(check, "-a*b+c", 1, 2, 9, 7, 3, 5);
        steps(check, "-a^2", 1, 10, 7);
        steps(check, "-a-b", 1, 7, 2, 6);
        steps(check, "(-a)*b", 1, 7, 2, 9);
        steps(check, "a-(-b)", 1, 2, 7, 6);
        steps(check, "a^2", 1, 10);
        steps(check, "a^3", 1, 8, 10, 9);
        steps(check, "a^4", 1, 10, 10);
        steps(check, "(a+b)^3", 1, 2, 5, 8, 10, 9);
        steps(check, "a*b^2", 1, 2, 10, 9);
        steps(check, "a^2*b^3", 1, 10, 2, 8, 10, 9, 9);
        steps(check, "A(a)", 1, 12);
        steps(check, "R(-a)", 1, 7, 13);
        steps(check, "L(a,b)", 1, 2, 14);
        steps(check, "G(a,b)", 1, 2, 15);
        steps(check, "L(a+b,-c)", 1, 2, 5, 3, 7, 14);
        steps(check, "G(L(a,b),c)^2", 1, 2, 14, 3, 15, 10);
        steps(check, "L(a,G(b,c))-d", 1, 2, 3, 15, 14, 4, 6);
        steps(check, "a+A(b*R(c))/d", 1, 2, 3, 13, 9, 12, 4, 11, 5);
        steps(check, "1+2.5*a", 0, 0, 1, 9, 5);
    }

    private static void values(Check check) {
        String[] numbers = {"0", "5", "10", "42", "100", "907", "999", "0.0", "0.5", "0.50", "0.05", "1.2", "1.23", "10.01", "999.99", "20.9", "100.00"};
        int[] values = {0, 500, 1000, 4200, 10000, 90700, 99900, 0, 50, 50, 5, 120, 123, 1001, 99999, 2090, 10000};
        for (int i = 0; i < numbers.length; i++) {
            AffineRanges x = Calls.with(numbers[i] + "+a*" + numbers[i]);
            check.due("value of " + numbers[i], x.step(0, 0, 1), values[i]);
            check.due("second value of " + numbers[i], x.step(0, 2, 1), values[i]);
            check.due("value of a", x.step(0, 1, 1), -6);
            check.due("value of a product", x.step(0, 3, 1), -6);
            check.due("value of a sum", x.step(0, 4, 1), -6);
        }
    }

    private static void wrongSteps(Check check) {
        AffineRanges x = Calls.with("a+2");
        check.due("step(1, 0, 0)", x.step(1, 0, 0), -1);
        check.due("step(1, 0, 2)", x.step(1, 0, 2), -1);
        for (int e : Calls.BAD_NUMBERS) check.due("step(" + e + ", 0, 0)", x.step(e, 0, 0), -1);
        check.due("step(0, -2, 0)", x.step(0, -2, 0), -1);
        check.due("step(0, 3, 0)", x.step(0, 3, 0), -1);
        check.due("step(0, 3, 2)", x.step(0, 3, 2), -1);
        check.due("step(0, 60, 1)", x.step(0, 60, 1), -1);
        check.due("step(0, min, 0)", x.step(0, Integer.MIN_VALUE, 0), -1);
        check.due("step(0, max, 0)", x.step(0, Integer.MAX_VALUE, 0), -1);
        check.due("step(0, 0, 2)", x.step(0, 0, 2), -2);
        check.due("step(0, 0, -1)", x.step(0, 0, -1), -2);
        check.due("step(0, -1, 2)", x.step(0, -1, 2), -2);
        check.due("step(0, -1, 0)", x.step(0, -1, 0), 3);
        check.due("step(0, -1, 1)", x.step(0, -1, 1), 3);
    }

    private static void mostSteps(Check check) {
        String text = "-a^3+b^3-c^3*d^3/a^3+b^3-c^3*d^3/a^3+b^3-c^3+d^3";
        check.due("length of the longest text", text.length(), 48);
        AffineRanges x = new AffineRanges();
        check.due("its steps", Calls.load(x, 0, text), 60);
        check.due("its last step", x.step(0, 59, 0), 5);
        check.due("behind its last step", x.step(0, 60, 0), -1);
        check.due("its inputs", x.inputs(0), 15);
    }

    private static void inputs(Check check) {
        String[] texts = {"a", "b", "c", "d", "7", "a-a", "a+d", "b*c", "L(a,G(b,c))", "a^3+R(d)", "0*c", "1/2+3"};
        int[] sets = {1, 2, 4, 8, 0, 1, 9, 6, 7, 9, 4, 0};
        for (int i = 0; i < texts.length; i++) check.due("inputs of " + texts[i], Calls.with(texts[i]).inputs(0), sets[i]);
        AffineRanges x = Calls.with("a");
        for (int e : Calls.BAD_NUMBERS) check.due("inputs(" + e + ")", x.inputs(e), -1);
        check.due("inputs(1)", x.inputs(1), -1);
        check.due("inputs(3)", x.inputs(3), -1);
    }
}
