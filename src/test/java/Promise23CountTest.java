/** Promise 23: count. */
final class Promise23CountTest {
    private Promise23CountTest() {
    }

    @Says("0 for the set of the expressions that there are, as a bit mask")
    static void setsOfExpressions(Check check) {
        for (int set = 0; set < 16; set++) {
            AffineRanges x = new AffineRanges();
            for (int e = 0; e < 4; e++) {
                if ((set >> e & 1) == 1) Calls.load(x, e, "7");
            }
            check.due("count(0)", x.count(0), set);
        }
    }

    @Says("1 for the length of the pad")
    static void lengthsOfThePad(Check check) {
        AffineRanges x = new AffineRanges();
        for (int i = 0; i < 48; i++) {
            check.due("count(1)", x.count(1), i);
            x.say('(');
        }
        check.due("count(1)", x.count(1), 48);
        x.say('(');
        check.due("count(1) of a full pad", x.count(1), 48);
        x.wipe();
        check.due("count(1) behind wipe()", x.count(1), 0);
    }

    @Says("2 for SYMBOLS")
    static void symbols(Check check) {
        AffineRanges x = new AffineRanges();
        check.due("count(2)", x.count(2), 4);
        for (int i = 0; i <= 8; i++) {
            x.setSymbols(i);
            check.due("count(2)", x.count(2), i);
        }
        x.setSymbols(9);
        check.due("count(2) behind setSymbols(9)", x.count(2), 8);
    }

    @Says("3 for the number of inputs whose domain has lo less than hi")
    static void domainsOfMoreThanOneNumber(Check check) {
        AffineRanges x = new AffineRanges();
        check.due("count(3)", x.count(3), 4);
        int[] points = {0, 256, -100000, 100000};
        for (int i = 0; i < 4; i++) {
            x.setDomain(i, points[i], points[i]);
            check.due("count(3)", x.count(3), 3 - i);
        }
        x.setDomain(2, -1, 0);
        check.due("count(3)", x.count(3), 1);
        x.setDomain(3, 5, 6);
        check.due("count(3)", x.count(3), 2);
        x.setDomain(3, 6, 6);
        check.due("count(3)", x.count(3), 1);
    }

    @Says("BAD_VALUE if what is not 0 to 3.")
    static void outOfRange(Check check) {
        AffineRanges x = Calls.with("a");
        int[] wrong = {Integer.MIN_VALUE, -2, -1, 4, 5, 256, Integer.MAX_VALUE};
        for (int what : wrong) check.due("count(" + what + ")", x.count(what), -2);
    }

    @Says("A call that returns an error code changes nothing.")
    static void changesNothing(Check check) {
        Twins.changesNothing(check, "count(4)", -2, x -> x.count(4));
        Twins.changesNothing(check, "count(-1)", -2, x -> x.count(-1));
        Twins.changesNothing(check, "count(0)", 13, x -> x.count(0));
    }
}
