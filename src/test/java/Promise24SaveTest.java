/** Promise 24: save. */
final class Promise24SaveTest {
    private Promise24SaveTest() {
    }

    @Says("- `slot`: 0 or 1")
    static void bothSlots(Check check) {
        AffineRanges x = Calls.with("a");
        check.due("save(0)", x.save(0), 1);
        check.due("restore(1)", x.restore(1), -5);
        Calls.load(x, 1, "b");
        check.due("save(1)", x.save(1), 3);
        check.due("restore(0)", x.restore(0), 1);
        check.due("restore(1)", x.restore(1), 3);
    }

    @Says("BAD_VALUE if the slot does not exist.")
    static void noSuchSlot(Check check) {
        AffineRanges x = Calls.with("a");
        int[] wrong = {Integer.MIN_VALUE, -2, -1, 2, 3, 256, Integer.MAX_VALUE};
        for (int slot : wrong) check.due("save(" + slot + ")", x.save(slot), -2);
        check.due("restore(0)", x.restore(0), -5);
        check.due("restore(1)", x.restore(1), -5);
    }

    @Says("Returns the set of the expressions that there are")
    static void setsOfExpressions(Check check) {
        AffineRanges x = new AffineRanges();
        check.due("save(0) of none", x.save(0), 0);
        int[] order = {3, 0, 2, 1};
        int[] sets = {8, 9, 13, 15};
        for (int i = 0; i < 4; i++) {
            Calls.load(x, order[i], "7");
            check.due("save(0)", x.save(0), sets[i]);
            check.due("save(1)", x.save(1), sets[i]);
        }
    }

    @Says("Saves the domains, SYMBOLS and the expressions in a slot")
    static void domains(Check check) {
        AffineRanges x = Calls.over(new AffineRanges(), -1, 1, -2, 2, -3, 3, -4, 4);
        x.save(0);
        Calls.over(x, 5, 5, 5, 5, 5, 5, 5, 5);
        x.restore(0);
        for (int i = 0; i < 4; i++) {
            check.due("domain(" + i + ", 0)", x.domain(i, 0), 999999 - i);
            check.due("domain(" + i + ", 1)", x.domain(i, 1), 1000001 + i);
        }
    }

    @Says("Saves the domains, SYMBOLS and the expressions in a slot")
    static void symbols(Check check) {
        AffineRanges x = new AffineRanges();
        x.setSymbols(0);
        x.save(0);
        x.setSymbols(8);
        x.save(1);
        x.setSymbols(5);
        x.restore(0);
        check.due("count(2)", x.count(2), 0);
        x.restore(1);
        check.due("count(2)", x.count(2), 8);
    }

    @Says("Saves the domains, SYMBOLS and the expressions in a slot")
    static void longestExpressions(Check check) {
        AffineRanges x = new AffineRanges();
        String text = "-" + "a^3*".repeat(11) + "d^3";
        for (int e = 0; e < 4; e++) Calls.load(x, e, text);
        check.due("save(1)", x.save(1), 15);
        for (int e = 0; e < 4; e++) Calls.load(x, e, "999.99");
        x.restore(1);
        for (int e = 0; e < 4; e++) {
            check.due("step(" + e + ", -1, 0)", x.step(e, -1, 0), 60);
            check.due("step(" + e + ", 0, 0)", x.step(e, 0, 0), 1);
            check.due("step(" + e + ", 54, 0)", x.step(e, 54, 0), 4);
            check.due("step(" + e + ", 59, 0)", x.step(e, 59, 0), 7);
            check.due("step(" + e + ", 0, 1)", x.step(e, 0, 1), -6);
        }
    }

    @Says("and overwrites what was saved there")
    static void overwrites(Check check) {
        AffineRanges x = Calls.with("a+b");
        Calls.load(x, 1, "d");
        x.setDomain(0, 1, 2);
        x.save(0);
        AffineRanges y = x;
        Calls.load(y, 0, "2.5");
        y.setDomain(0, 3, 4);
        y.setSymbols(1);
        check.due("save(0) over it", y.save(0), 3);
        y.setDomain(0, 5, 6);
        check.due("restore(0)", y.restore(0), 3);
        check.due("domain(0, 0)", y.domain(0, 0), 1000003);
        check.due("count(2)", y.count(2), 1);
        check.due("step(0, -1, 0)", y.step(0, -1, 0), 1);
        check.due("step(0, 0, 1)", y.step(0, 0, 1), 250);
    }

    @Says("and overwrites what was saved there")
    static void expressionsThatAreNotThereAnyLonger(Check check) {
        AffineRanges x = new AffineRanges();
        x.save(1);
        Calls.load(x, 2, "a");
        x.save(0);
        check.due("restore(1)", x.restore(1), 0);
        check.due("save(0) of none", x.save(0), 0);
        Calls.load(x, 3, "b");
        check.due("restore(0)", x.restore(0), 0);
        check.due("inputs(2)", x.inputs(2), -1);
        check.due("inputs(3)", x.inputs(3), -1);
    }

    @Says("Saves the domains, SYMBOLS and the expressions in a slot")
    static void laterChangesDoNotReachTheSlot(Check check) {
        AffineRanges x = Calls.with("a+b");
        x.save(0);
        Calls.load(x, 0, "c*d*a");
        x.setDomain(1, 7, 7);
        x.setSymbols(2);
        x.restore(0);
        check.due("step(0, 2, 0)", x.step(0, 2, 0), 5);
        check.due("domain(1, 0)", x.domain(1, 0), 1000000);
        check.due("count(2)", x.count(2), 4);
        check.due("inputs(0)", x.inputs(0), 3);
    }

    @Says("Saves the domains, SYMBOLS and the expressions in a slot")
    static void nothingElse(Check check) {
        // The pad and the latest proof are not saved, so they are not restored.
        AffineRanges x = Calls.with("a");
        x.prove(0, 0, 200);
        Calls.say(x, "1+b");
        x.save(0);
        check.due("count(1)", x.count(1), 3);
        check.due("proof(0)", x.proof(0), 9);
        x.wipe();
        x.say('c');
        x.prove(0, -1, 1);
        x.restore(0);
        check.due("count(1) behind restore", x.count(1), 1);
        check.due("proof(0) behind restore", x.proof(0), 1);
        check.due("load(1)", x.load(1), 1);
        check.due("step(1, 0, 0)", x.step(1, 0, 0), 3);
    }

    @Says("A call that returns an error code changes nothing.")
    static void refusedCallChangesNothing(Check check) {
        Twins.changesNothing(check, "save(-1)", -2, x -> x.save(-1));
        Twins.changesNothing(check, "save(2)", -2, x -> x.save(2));
    }
}
