/** Promise 25: restore. */
final class Promise25RestoreTest {
    private Promise25RestoreTest() {
    }

    @Says("NOT_POSSIBLE if nothing was saved in it.")
    static void nothingSaved(Check check) {
        AffineRanges x = Calls.with("a");
        check.due("restore(0)", x.restore(0), -5);
        check.due("restore(1)", x.restore(1), -5);
        x.save(1);
        check.due("restore(0), 1 is saved", x.restore(0), -5);
        check.due("restore(1), 1 is saved", x.restore(1), 1);
        x.save(0);
        check.due("restore(0), both are saved", x.restore(0), 1);
    }

    @Says("NOT_POSSIBLE if nothing was saved in it.")
    static void savedWithoutExpressions(Check check) {
        AffineRanges x = new AffineRanges();
        check.due("save(0)", x.save(0), 0);
        Calls.load(x, 0, "a");
        check.due("restore(0)", x.restore(0), 0);
        check.due("inputs(0)", x.inputs(0), -1);
        check.due("restore(1)", x.restore(1), -5);
    }

    @Says("BAD_VALUE if the slot does not exist")
    static void noSuchSlot(Check check) {
        AffineRanges x = Calls.with("a");
        int[] wrong = {Integer.MIN_VALUE, -2, -1, 2, 3, 256, Integer.MAX_VALUE};
        for (int slot : wrong) check.due("restore(" + slot + ")", x.restore(slot), -2);
        x.save(0);
        x.save(1);
        for (int slot : wrong) check.due("restore(" + slot + "), both are saved", x.restore(slot), -2);
    }

    @Says("Returns the set of the expressions that there are then")
    static void setsOfExpressions(Check check) {
        AffineRanges x = new AffineRanges();
        Calls.load(x, 0, "a");
        Calls.load(x, 3, "b");
        x.save(0);
        Calls.load(x, 1, "a");
        Calls.load(x, 2, "a");
        x.save(1);
        check.due("restore(0)", x.restore(0), 9);
        check.due("count(0)", x.count(0), 9);
        check.due("restore(1)", x.restore(1), 15);
        check.due("count(0)", x.count(0), 15);
    }

    @Says("Restores what was saved last in a slot")
    static void allThatWasSaved(Check check) {
        AffineRanges x = Calls.over(Calls.with("a+b"), 1, 2, 3, 4);
        x.setSymbols(6);
        Calls.load(x, 2, "c^3");
        x.save(0);
        x.setSymbols(1);
        Calls.over(x, 7, 7, 7, 7, 7, 7, 7, 7);
        Calls.load(x, 0, "d");
        Calls.load(x, 1, "d");
        check.due("restore(0)", x.restore(0), 5);
        check.due("count(2)", x.count(2), 6);
        check.due("domain(0, 0)", x.domain(0, 0), 1000001);
        check.due("domain(1, 1)", x.domain(1, 1), 1000004);
        check.due("domain(3, 1)", x.domain(3, 1), 1000256);
        check.due("step(0, 2, 0)", x.step(0, 2, 0), 5);
        check.due("inputs(1)", x.inputs(1), -1);
        check.due("step(2, 3, 0)", x.step(2, 3, 0), 9);
        check.due("bound(0, 1, 0)", x.bound(0, 1, 0), 4);
    }

    @Says("Restores what was saved last in a slot")
    static void lastOfSeveral(Check check) {
        AffineRanges x = new AffineRanges();
        for (int i = 0; i < 4; i++) {
            x.setDomain(0, i, i);
            x.save(i % 2);
        }
        x.restore(0);
        check.due("domain(0, 0)", x.domain(0, 0), 1000002);
        x.restore(1);
        check.due("domain(0, 0)", x.domain(0, 0), 1000003);
    }

    @Says("which keeps it")
    static void again(Check check) {
        AffineRanges x = Calls.over(Calls.with("a+b"), 1, 2);
        x.save(0);
        for (int i = 0; i < 3; i++) {
            Calls.load(x, 0, "7");
            Calls.load(x, 1, "7");
            x.setDomain(0, 9, 9);
            x.setSymbols(0);
            check.due("restore(0)", x.restore(0), 1);
            check.due("step(0, -1, 0)", x.step(0, -1, 0), 3);
            check.due("domain(0, 0)", x.domain(0, 0), 1000001);
            check.due("count(2)", x.count(2), 4);
        }
    }

    @Says("which keeps it")
    static void theOtherSlotToo(Check check) {
        AffineRanges x = Calls.with("a");
        x.save(0);
        Calls.load(x, 0, "b*c");
        x.save(1);
        x.restore(0);
        x.restore(1);
        check.due("step(0, -1, 0)", x.step(0, -1, 0), 3);
        x.restore(0);
        check.due("step(0, -1, 0)", x.step(0, -1, 0), 1);
    }

    @Says("Restores what was saved last in a slot")
    static void nothingElse(Check check) {
        AffineRanges x = Calls.with("a");
        x.save(0);
        Calls.say(x, "b*(c");
        x.prove(0, 0, 200);
        x.setDomain(0, 5, 6);
        check.due("restore(0)", x.restore(0), 1);
        check.due("count(1)", x.count(1), 4);
        check.due("fault()", x.fault(), 4);
        check.due("proof(0)", x.proof(0), 9);
        check.due("proof(5)", x.proof(5), 1);
        x.say(')');
        check.due("load(1)", x.load(1), 3);
    }

    @Says("A call that returns an error code changes nothing.")
    static void refusedCallChangesNothing(Check check) {
        Twins.changesNothing(check, "restore(0)", -5, x -> x.restore(0));
        Twins.changesNothing(check, "restore(-1)", -2, x -> x.restore(-1));
        Twins.changesNothing(check, "restore(2)", -2, x -> x.restore(2));
    }
}
