/** Promise 10: inputs. */
final class Promise10InputsTest {
    private Promise10InputsTest() {
    }

    private static void inputs(Check check, String text, int want) {
        check.due("inputs of " + text, Calls.with(text).inputs(0), want);
    }

    @Says("Returns the set of them as a bit mask")
    static void none(Check check) {
        inputs(check, "0", 0);
        inputs(check, "1+2*3", 0);
        inputs(check, "L(1,2)-A(3)", 0);
    }

    @Says("Returns the set of them as a bit mask")
    static void one(Check check) {
        inputs(check, "a", 1);
        inputs(check, "b", 2);
        inputs(check, "c", 4);
        inputs(check, "d", 8);
        inputs(check, "d^3", 8);
        inputs(check, "a*a+a", 1);
    }

    @Says("Returns the set of them as a bit mask")
    static void all(Check check) {
        inputs(check, "a+b+c+d", 15);
        inputs(check, "d*c/b-a", 15);
        inputs(check, "L(G(a,d),R(b))-A(c)", 15);
        for (int set = 1; set < 16; set++) {
            StringBuilder text = new StringBuilder("1");
            for (int i = 0; i < 4; i++) {
                if ((set >> i & 1) == 1) text.append('+').append((char) ('a' + i));
            }
            inputs(check, text.toString(), set);
        }
    }

    @Says("Returns the inputs on which an expression depends.")
    static void atTheEnds(Check check) {
        inputs(check, "a+1", 1);
        inputs(check, "1+a", 1);
        inputs(check, "b-1-2-3-4", 2);
        inputs(check, "1-2-3-4-d", 8);
    }

    @Says("Returns the inputs on which an expression depends.")
    static void whateverTheDomains(Check check) {
        AffineRanges x = Calls.over(Calls.with("a*b"), 0, 0, 7, 7);
        check.due("inputs(0)", x.inputs(0), 3);
        Calls.load(x, 0, "c/a");
        check.due("inputs(0) of a wild form", x.inputs(0), 5);
    }

    @Says("NO_SUCH if there is no such expression.")
    static void noSuchExpression(Check check) {
        AffineRanges x = Calls.with("a");
        for (int e = 1; e < 4; e++) check.due("inputs(" + e + ")", x.inputs(e), -1);
        for (int e : Calls.BAD_NUMBERS) check.due("inputs(" + e + ")", x.inputs(e), -1);
        check.due("inputs(0)", x.inputs(0), 1);
    }

    @Says("A call that returns an error code changes nothing.")
    static void changesNothing(Check check) {
        Twins.changesNothing(check, "inputs(1)", -1, x -> x.inputs(1));
        Twins.changesNothing(check, "inputs(4)", -1, x -> x.inputs(4));
        Twins.changesNothing(check, "inputs(0)", 3, x -> x.inputs(0));
    }
}
