/** Promises 1 to 4: a new object, setDomain, domain, setSymbols. */
final class InputsTest {
    private InputsTest() {
    }

    static void run(Check check) {
        newObject(check);
        setDomain(check);
        wrongDomains(check);
        domain(check);
        setSymbols(check);
    }

    private static void newObject(Check check) {
        AffineRanges x = new AffineRanges();
        for (int i = 0; i < 4; i++) {
            check.due("new: inputs(" + i + ")", x.inputs(i), -1);
            check.due("new: domain(" + i + ", 0)", x.domain(i, 0), 1000000);
            check.due("new: domain(" + i + ", 1)", x.domain(i, 1), 1000256);
        }
        check.due("new: fault()", x.fault(), 0);
        check.due("new: count(0)", x.count(0), 0);
        check.due("new: count(1)", x.count(1), 0);
        check.due("new: count(2)", x.count(2), 4);
        check.due("new: count(3)", x.count(3), 4);
        check.due("new: restore(0)", x.restore(0), -5);
        check.due("new: restore(1)", x.restore(1), -5);
        check.due("new: proof(0)", x.proof(0), Calls.NONE);
        check.due("new: save(0)", x.save(0), 0);
        // What one object does is not seen by another.
        Calls.load(x, 1, "a");
        x.setDomain(2, 1, 2);
        AffineRanges y = new AffineRanges();
        check.due("another: count(0)", y.count(0), 0);
        check.due("another: domain(2, 1)", y.domain(2, 1), 1000256);
    }

    private static void setDomain(Check check) {
        AffineRanges x = new AffineRanges();
        check.due("setDomain(0, -100000, 100000)", x.setDomain(0, -100000, 100000), 256);
        check.due("setDomain(0, -5, -5)", x.setDomain(0, -5, -5), 200000);
        check.due("setDomain(0, 100000, 100000)", x.setDomain(0, 100000, 100000), 0);
        check.due("setDomain(0, -100000, -100000)", x.setDomain(0, -100000, -100000), 0);
        check.due("setDomain(3, -7, 9)", x.setDomain(3, -7, 9), 256);
        check.due("setDomain(3, 0, 0)", x.setDomain(3, 0, 0), 16);
        check.due("setDomain(1, 1, 2)", x.setDomain(1, 1, 2), 256);
        check.due("domain(0, 0)", x.domain(0, 0), 900000);
        check.due("domain(1, 0)", x.domain(1, 0), 1000001);
        check.due("domain(2, 1)", x.domain(2, 1), 1000256);
        check.due("domain(3, 1)", x.domain(3, 1), 1000000);
    }

    private static void wrongDomains(Check check) {
        AffineRanges x = new AffineRanges();
        for (int input : Calls.BAD_NUMBERS) {
            check.due("setDomain(" + input + ", 0, 1)", x.setDomain(input, 0, 1), -1);
            check.due("setDomain(" + input + ", 1, 0)", x.setDomain(input, 1, 0), -1);
        }
        int[][] wrong = {{-100001, 0}, {0, 100001}, {100001, 100001}, {-100001, -100001}, {5, 4}, {1, 0}, {0, -1},
            {Integer.MIN_VALUE, 0}, {0, Integer.MAX_VALUE}, {Integer.MAX_VALUE, Integer.MIN_VALUE}, {-200000, 200000}};
        for (int[] ends : wrong) {
            check.due("setDomain(2, " + ends[0] + ", " + ends[1] + ")", x.setDomain(2, ends[0], ends[1]), -2);
        }
        check.due("domain(2, 0) as before", x.domain(2, 0), 1000000);
        check.due("domain(2, 1) as before", x.domain(2, 1), 1000256);
    }

    private static void domain(Check check) {
        AffineRanges x = Calls.over(new AffineRanges(), -3, 8, -100000, 100000);
        check.due("domain(0, 0)", x.domain(0, 0), 999997);
        check.due("domain(0, 1)", x.domain(0, 1), 1000008);
        check.due("domain(1, 0)", x.domain(1, 0), 900000);
        check.due("domain(1, 1)", x.domain(1, 1), 1100000);
        for (int input : Calls.BAD_NUMBERS) {
            check.due("domain(" + input + ", 0)", x.domain(input, 0), -1);
            check.due("domain(" + input + ", 2)", x.domain(input, 2), -1);
            if (input != 1) check.due("domain(0, " + input + ")", x.domain(0, input), -2);
        }
        check.due("domain(3, 2)", x.domain(3, 2), -2);
        check.due("domain(3, -1)", x.domain(3, -1), -2);
    }

    private static void setSymbols(Check check) {
        AffineRanges x = new AffineRanges();
        check.due("setSymbols(0)", x.setSymbols(0), 4);
        check.due("setSymbols(8)", x.setSymbols(8), 0);
        check.due("setSymbols(-1)", x.setSymbols(-1), -2);
        check.due("setSymbols(9)", x.setSymbols(9), -2);
        check.due("setSymbols(max)", x.setSymbols(Integer.MAX_VALUE), -2);
        check.due("setSymbols(min)", x.setSymbols(Integer.MIN_VALUE), -2);
        check.due("setSymbols(3)", x.setSymbols(3), 8);
        check.due("count(2)", x.count(2), 3);
    }
}
