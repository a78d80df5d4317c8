/** Promise 7: fault. */
final class Promise07FaultTest {
    private static final int NONE = -6;

    private Promise07FaultTest() {
    }

    private static void fault(Check check, String text, int want) {
        AffineRanges x = new AffineRanges();
        Calls.say(x, text);
        check.due("fault of " + text, x.fault(), want);
    }

    private static void correct(Check check, String... texts) {
        for (String text : texts) fault(check, text, NONE);
    }

    /** In each text, the fault is at the character behind the mark "|". */
    private static void faults(Check check, String... marked) {
        for (String text : marked) {
            int at = text.indexOf('|');
            fault(check, text.substring(0, at) + text.substring(at + 1), at);
        }
    }

    private static String times(int times, String text) {
        return text.repeat(times);
    }

    @Says("Returns the fault, or NONE if the text is correct.")
    static void correctTexts(Check check) {
        correct(check, "a", "0", "a+b", "a-a", "a*b/c", "-a", "(a)", "A(a)", "R(a)", "L(a,b)", "G(a,b)", "a^2", "1.5*a^3-L(-b,G(c,(d)))/A(R(2)-1)");
    }

    @Says("if there is no such character, it is the length of the text")
    static void emptyText(Check check) {
        AffineRanges x = new AffineRanges();
        check.due("fault()", x.fault(), 0);
        Calls.say(x, "a");
        x.wipe();
        check.due("fault() behind wipe()", x.fault(), 0);
        Calls.load(x, 0, "a");
        check.due("fault() behind load()", x.fault(), 0);
    }

    @Says("if there is no such character, it is the length of the text")
    static void unfinishedTexts(Check check) {
        faults(check, "-|", "a+|", "a-|", "a*|", "a/|", "a^|", "(|", "(a|", "(a+|", "A|", "R|", "L|", "G|", "A(|", "A(a|", "L(|", "L(a|", "L(a,|", "L(a,b|", "1.|",
                "-(|", "(-|", "L(-|", "L(a,-|", "a+(b|", "((a)|", "a^2*|", "0.|", "999.|", "L(a,b)+|");
    }

    @Says("the first character with which, after all characters before it, no correct text can begin")
    static void firstOfSeveral(Check check) {
        faults(check, "|?", "a|?", "|++", "a+|+*", "a|b)^", "a|))", "(|))", "1.|..", "1|(2)(", "a^|^", "L(a|)(", "a|?b", "|Za+b", "a+b|Z");
    }

    @Says("the first character with which, after all characters before it, no correct text can begin")
    static void notBeforeItIsSaid(Check check) {
        AffineRanges x = new AffineRanges();
        String text = "-(a+L(1.5,b^2)*";
        for (int i = 0; i < text.length(); i++) {
            check.due("fault of " + text.substring(0, i), x.fault(), i);
            x.say(text.charAt(i));
        }
        check.due("fault of " + text, x.fault(), 15);
        // What stands behind the fault does not matter.
        x.say(')');
        for (int i = 16; i < 20; i++) {
            check.due("fault of " + text + ") and more", x.fault(), 15);
            x.say('a');
        }
    }

    @Says("(The greatest length of the text does not matter for this.)")
    static void textsTooLongToBeFinished(Check check) {
        // None of them can become correct within 48 characters, and yet none of their characters is a fault.
        String[] texts = {times(48, "("), times(24, "a+"), times(24, "A("), times(24, "L("), times(12, "L(a,"), times(24, "-("), times(47, "(") + "a",
            times(47, "(") + "-", times(30, "("), times(46, "(") + "a", times(20, "G(") + "a"};
        for (String text : texts) fault(check, text, text.length());
    }

    @Says("a text of at most 48 characters")
    static void correctFullPads(Check check) {
        String[] texts = {times(23, "a+") + "10", "-" + times(23, "a*") + "b", times(15, "A(") + "a^2" + times(15, ")"), times(23, "(") + "10" + times(23, ")"),
            times(8, "L(a,") + "999.99-1" + times(8, ")")};
        for (String text : texts) check.due("length of " + text, text.length(), 48);
        correct(check, texts);
    }

    @Says("a text of at most 48 characters")
    static void faultAtTheLastCharacterOfAFullPad(Check check) {
        fault(check, times(23, "a+") + "a)", 47);
        fault(check, times(24, "(") + "a+b" + times(21, ")"), 48);
        fault(check, times(23, "(") + "a" + times(24, ")"), 47);
        fault(check, times(22, "(") + "a" + times(25, ")"), 45);
        fault(check, times(23, "a+") + "00", 47);
    }

    @Says("expression = [ \"-\" ] term { ( \"+\" | \"-\" ) term }")
    static void minusBeforeTheFirstTermOnly(Check check) {
        correct(check, "-a", "-1", "-a*b", "-a-b", "(-a)", "-(-a)", "a-(-b)", "a*(-b)", "A(-a)", "L(-a,-b)", "-(a)", "-A(a)", "-a^2", "(-a)^2");
        faults(check, "-|-a", "a-|-b", "a+|-b", "a*|-b", "a/|-b", "(-|-a)", "L(-|-a,b)", "L(a,-|-b)", "a^|-2", "-|+a");
    }

    @Says("expression = [ \"-\" ] term { ( \"+\" | \"-\" ) term }")
    static void noPlusBeforeTheFirstTerm(Check check) {
        faults(check, "|+a", "(|+a)", "A(|+a)", "L(|+a,b)", "L(a,|+b)", "a+|+b", "a-|+b", "-|+a");
    }

    @Says("term = factor { ( \"*\" | \"/\" ) factor }")
    static void factorsOnBothSides(Check check) {
        correct(check, "a*b", "a/b", "a*b*c", "a/b/c", "a*b/c*d", "0/0");
        faults(check, "|*a", "|/a", "a*|*b", "a*|/b", "a/|/b", "a+|*b", "(|*a)", "a*|)", "a*|+b", "-|*a", "L(a,|/b)");
    }

    @Says("factor = atom [ \"^\" ( \"2\" | \"3\" | \"4\" ) ]")
    static void powersTwoToFour(Check check) {
        for (int c = 33; c <= 126; c++) {
            boolean power = c >= '2' && c <= '4';
            fault(check, "a^" + (char) c, power ? NONE : 2);
            fault(check, "(b+2.5)^" + (char) c, power ? NONE : 8);
        }
        correct(check, "2^2", "1.5^3", "0^4", "(a)^2", "A(a)^3", "R(a)^4", "L(a,b)^2", "G(a,b)^3", "(a^2)^2", "(a^3)^4", "a^2*b^3", "a^4");
        faults(check, "|^2", "a+|^2", "(|^2)", "a^2|2", "a^2|3", "a^4|0", "a^2|.5", "-|^2");
    }

    @Says("factor = atom [ \"^\" ( \"2\" | \"3\" | \"4\" ) ]")
    static void onePowerOnly(Check check) {
        faults(check, "a^2|^2", "a^3|^3", "(a)^2|^4", "2^2|^2", "A(a)^4|^2", "a*b^2|^2");
    }

    @Says("factor = atom [ \"^\" ( \"2\" | \"3\" | \"4\" ) ]")
    static void operatorBehindAPower(Check check) {
        correct(check, "a^2+b", "a^2-b", "a^2*b", "a^2/b", "(a^2)", "L(a^2,b^2)");
        faults(check, "a^2|b", "a^2|(", "a^2|(b)", "a^2|A(b)", "a^2|,", "a^2|)", "a^2|.");
    }

    @Says("atom = \"a\" to \"d\"")
    static void everyFirstCharacter(Check check) {
        for (int c = 33; c <= 126; c++) {
            boolean atom = "abcd0123456789".indexOf(c) >= 0;
            boolean begins = "-(ARLG".indexOf(c) >= 0;
            fault(check, "" + (char) c, atom ? NONE : begins ? 1 : 0);
            fault(check, "a*" + (char) c, atom ? NONE : begins && c != '-' ? 3 : 2);
            fault(check, "(" + (char) c, atom || begins ? 2 : 1);
            fault(check, "G(a," + (char) c, atom || begins ? 5 : 4);
        }
    }

    @Says("atom = \"a\" to \"d\"")
    static void everyCharacterBehindAnAtom(Check check) {
        for (int c = 33; c <= 126; c++) {
            boolean operator = "+-*/^".indexOf(c) >= 0;
            fault(check, "d" + (char) c, operator ? 2 : 1);
            fault(check, "(a)" + (char) c, operator ? 4 : 3);
            fault(check, "(b" + (char) c, c == ')' ? NONE : operator ? 3 : 2);
            fault(check, "L(c" + (char) c, operator || c == ',' ? 4 : 3);
            fault(check, "L(a,c" + (char) c, c == ')' ? NONE : operator ? 6 : 5);
            fault(check, "A(c" + (char) c, c == ')' ? NONE : operator ? 4 : 3);
        }
    }

    @Says("written a to d")
    static void inputsAToD(Check check) {
        correct(check, "a", "b", "c", "d");
        faults(check, "|e", "|`", "|x", "|B", "|C", "|D", "|@", "a+|e", "a|a", "a|b", "a|1", "a|A(b)", "a|(b)");
    }

    @Says("\"(\" expression \")\"")
    static void brackets(Check check) {
        correct(check, "(a)", "((a))", "(((((a)))))", "(a+b)*(c-d)", "((a)+(b))");
        faults(check, "(|)", "|)", "a|)", "(a)|)", "((a))|)", "(a|,b)", "(a)|(b)", "(a)|b", "a|(b)", "((a)|", "(a|", "(a+|)", "1|(a)");
    }

    @Says("( \"A\" | \"R\" ) \"(\" expression \")\"")
    static void oneArgument(Check check) {
        correct(check, "A(a)", "R(a)", "A(R(a))", "A((a))", "R(a+b)", "A(-a)", "A(1)");
        faults(check, "A(|)", "R(|)", "A|a", "R|a", "A|)", "A|A(a)", "A|^2", "A|,", "A(a|,b)", "R(a|,", "A(a)|(", "A(a)|a", "A(a)|)", "|r(a)", "A(a|");
        for (int c = 33; c <= 126; c++) fault(check, "R" + (char) c, c == '(' ? 2 : 1);
    }

    @Says("( \"L\" | \"G\" ) \"(\" expression \",\" expression \")\"")
    static void twoArguments(Check check) {
        correct(check, "L(a,b)", "G(a,b)", "L(L(a,b),G(c,d))", "L((a),(b))", "G(a+b,c*d)", "L(A(a),R(b))");
        faults(check, "L(|)", "L(|,", "L(|,a)", "L(a|)", "G(a|)", "L(a,|)", "L(a,|,", "L(a,b|,", "L(a,b|,c)", "G(a,b|,c)", "L|a", "G|a", "L(a,b)|)", "|l(a,b)", "|g(a,b)", "L(a+|,", "L(a,b)|(");
        for (int c = 33; c <= 126; c++) fault(check, "G" + (char) c, c == '(' ? 2 : 1);
    }

    @Says("( \"L\" | \"G\" ) \"(\" expression \",\" expression \")\"")
    static void commaInItsOwnBracket(Check check) {
        faults(check, "a|,b", "|,", "L((a|,b),c)", "L(A(a|,b),c)", "A(L(a,b)|,c)", "(L(a,b)|,", "L(a,(b|,", "L(G(a|),", "G(L(a,b),c|,", "L(a,G(b|)");
    }

    @Says("number = one to three digits without leading zeros")
    static void oneToThreeDigits(Check check) {
        correct(check, "0", "1", "9", "10", "99", "100", "999", "101", "90", "900");
        faults(check, "100|0", "999|9", "123|4", "123|4.5", "a+999|0");
    }

    @Says("number = one to three digits without leading zeros")
    static void leadingZeros(Check check) {
        correct(check, "0", "0+0", "10", "100", "0.5", "0*a", "0^2", "(0)");
        faults(check, "0|0", "0|1", "0|9", "0|00", "0|07", "a-0|1", "(0|0", "0|0.5", "0|1.5", "L(0,0|1)");
    }

    @Says("[ \".\" and one or two digits ]")
    static void oneOrTwoDigitsBehindThePoint(Check check) {
        correct(check, "1.0", "1.00", "1.5", "1.05", "1.50", "0.0", "0.00", "0.01", "10.5", "999.9", "999.99");
        faults(check, "1.|", "0.|", "1.|a", "1.|+", "1.|)", "1.|^2", "1.|.", "1.|,", "1.5|.", "1.5|.5", "1.25|.", "1.25|0", "1.00|0", "0.01|2", "999.99|9", "|.5", "a|.5", "(a)|.5", "a+|.5");
    }

    @Says("[ \".\" and one or two digits ]")
    static void everyCharacterWithinANumber(Check check) {
        for (int c = 33; c <= 126; c++) {
            boolean digit = c >= '0' && c <= '9';
            boolean operator = "+-*/^".indexOf(c) >= 0;
            fault(check, "7" + (char) c, digit ? NONE : operator || c == '.' ? 2 : 1);
            fault(check, "78" + (char) c, digit ? NONE : operator || c == '.' ? 3 : 2);
            fault(check, "780" + (char) c, operator || c == '.' ? 4 : 3);
            fault(check, "0" + (char) c, operator || c == '.' ? 2 : 1);
            fault(check, "7." + (char) c, digit ? NONE : 2);
            fault(check, "7.0" + (char) c, digit ? NONE : operator ? 4 : 3);
            fault(check, "7.08" + (char) c, operator ? 5 : 4);
        }
    }

    @Says("Returns the fault of the pad.")
    static void changesNothing(Check check) {
        Twins.changesNothing(check, "fault()", NONE, x -> x.fault());
        AffineRanges x = new AffineRanges();
        Calls.say(x, "a+)");
        check.due("fault()", x.fault(), 2);
        check.due("fault(), again", x.fault(), 2);
        check.due("count(1)", x.count(1), 3);
        // The expressions that there are do not change by what is looked at on the pad.
        Calls.load(x, 0, "a*b");
        Calls.say(x, "1-c^3");
        check.due("fault() of another text", x.fault(), NONE);
        check.due("step(0, -1, 0)", x.step(0, -1, 0), 3);
        check.due("step(0, 2, 0)", x.step(0, 2, 0), 9);
    }
}
