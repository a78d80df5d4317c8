/** Promises 23 to 25: count, save, restore. */
final class SavingTest {
    private SavingTest() {
    }

    static void run(Check check) {
        count(check);
        save(check);
        slots(check);
        copies(check);
        wrongSlots(check);
    }

    private static void count(Check check) {
        AffineRanges x = new AffineRanges();
        check.due("count(0)", x.count(0), 0);
        Calls.load(x, 3, "a");
        check.due("count(0)", x.count(0), 8);
        Calls.load(x, 0, "b");
        check.due("count(0)", x.count(0), 9);
        Calls.load(x, 1, "b");
        Calls.load(x, 2, "b");
        check.due("count(0)", x.count(0), 15);
        Calls.say(x, "xyz");
        check.due("count(1)", x.count(1), 3);
        x.setSymbols(7);
        check.due("count(2)", x.count(2), 7);
        x.setDomain(1, 5, 5);
        check.due("count(3)", x.count(3), 3);
        Calls.over(x, 0, 0, 5, 6, 0, 0, -9, -9);
        check.due("count(3)", x.count(3), 1);
        x.setDomain(1, 6, 6);
        check.due("count(3)", x.count(3), 0);
        for (int what : Calls.BAD_NUMBERS) check.due("count(" + what + ")", x.count(what), -2);
    }

    private static void save(Check check) {
        AffineRanges x = Calls.over(Calls.with("a+b"), 1, 2, 3, 4);
        x.setSymbols(6);
        Calls.load(x, 2, "c^3");
        Calls.say(x, "a*");
        check.due("save(0)", x.save(0), 5);
        check.due("count(1) behind save", x.count(1), 2);
        x.setSymbols(1);
        Calls.over(x, 7, 7, 7, 7, 7, 7, 7, 7);
        x.say('d');
        x.load(0);
        Calls.load(x, 1, "d");
        Calls.say(x, "R(");
        check.due("count(0) before restore", x.count(0), 7);
        check.due("restore(0)", x.restore(0), 5);
        check.due("count(0) behind restore", x.count(0), 5);
        check.due("the pad stays", x.count(1), 2);
        check.due("SYMBOLS", x.count(2), 6);
        check.due("domain(0, 0)", x.domain(0, 0), 1000001);
        check.due("domain(1, 1)", x.domain(1, 1), 1000004);
        check.due("domain(3, 1)", x.domain(3, 1), 1000256);
        check.due("step(0, 2, 0)", x.step(0, 2, 0), 5);
        check.due("inputs(1)", x.inputs(1), -1);
        check.due("step(2, 3, 0)", x.step(2, 3, 0), 9);
        check.due("bound(0, 1, 0)", x.bound(0, 1, 0), 4);
        x.setDomain(0, 9, 9);
        check.due("restore(0) again", x.restore(0), 5);
        check.due("domain(0, 0) again", x.domain(0, 0), 1000001);
    }

    private static void slots(Check check) {
        AffineRanges x = new AffineRanges();
        check.due("save(1) of nothing", x.save(1), 0);
        check.due("restore(0) of nothing saved", x.restore(0), -5);
        Calls.load(x, 1, "7.25");
        check.due("save(0)", x.save(0), 2);
        check.due("restore(1)", x.restore(1), 0);
        check.due("count(0)", x.count(0), 0);
        check.due("restore(0)", x.restore(0), 2);
        check.due("step(1, 0, 1)", x.step(1, 0, 1), 725);
        Calls.load(x, 3, "a");
        check.due("save(0) over it", x.save(0), 10);
        check.due("restore(1)", x.restore(1), 0);
        check.due("restore(0)", x.restore(0), 10);
    }

    /** What is changed behind save() does not reach the slot, nor what is changed behind restore(). */
    private static void copies(Check check) {
        AffineRanges x = Calls.with("a");
        x.save(0);
        x.save(1);
        Calls.load(x, 0, "b+c");
        x.restore(0);
        check.due("step(0, -1, 0)", x.step(0, -1, 0), 1);
        Calls.load(x, 0, "b+c+d");
        x.setDomain(0, -1, 1);
        x.setSymbols(0);
        check.due("restore(1)", x.restore(1), 1);
        check.due("step(0, -1, 0)", x.step(0, -1, 0), 1);
        check.due("domain(0, 0)", x.domain(0, 0), 1000000);
        check.due("count(2)", x.count(2), 4);
    }

    private static void wrongSlots(Check check) {
        AffineRanges x = Calls.with("a");
        int[] wrong = {Integer.MIN_VALUE, -1, 2, 3, 4, Integer.MAX_VALUE};
        for (int slot : wrong) {
            check.due("save(" + slot + ")", x.save(slot), -2);
            check.due("restore(" + slot + ")", x.restore(slot), -2);
        }
        check.due("restore(0)", x.restore(0), -5);
        check.due("restore(1)", x.restore(1), -5);
        check.due("count(0)", x.count(0), 1);
    }
}
