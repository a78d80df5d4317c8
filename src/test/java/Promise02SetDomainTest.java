/** Promise 2: setDomain. */
final class Promise02SetDomainTest {
    private Promise02SetDomainTest() {
    }

    private static void set(Check check, AffineRanges x, int input, int lo, int hi, int want) {
        check.due("setDomain(" + input + ", " + lo + ", " + hi + ")", x.setDomain(input, lo, hi), want);
    }

    @Says("Sets the domain of an input.")
    static void itsOwnDomainOnly(Check check) {
        for (int input = 0; input < 4; input++) {
            AffineRanges x = new AffineRanges();
            x.setDomain(input, -3, 9);
            for (int i = 0; i < 4; i++) {
                check.due("domain(" + i + ", 0)", x.domain(i, 0), i == input ? 999997 : 1000000);
                check.due("domain(" + i + ", 1)", x.domain(i, 1), i == input ? 1000009 : 1000256);
            }
        }
    }

    @Says("Sets the domain of an input.")
    static void seenByAllExpressions(Check check) {
        AffineRanges x = Calls.with("a");
        Calls.load(x, 3, "a+1");
        x.setDomain(0, 5, 7);
        check.due("bound(0, 1, 0)", x.bound(0, 1, 0), 5);
        check.due("bound(3, 1, 1)", x.bound(3, 1, 1), 263);
        Calls.load(x, 1, "-a");
        check.due("bound(1, 1, 0)", x.bound(1, 1, 0), -7);
    }

    @Says("- `lo`: -100000 to 100000")
    static void leastLo(Check check) {
        AffineRanges x = new AffineRanges();
        set(check, x, 0, -100000, 0, 256);
        set(check, x, 0, -100001, 0, -2);
        set(check, x, 0, -100001, -100001, -2);
        check.due("domain(0, 0)", x.domain(0, 0), 900000);
    }

    @Says("- `lo`: -100000 to 100000")
    static void greatestLo(Check check) {
        AffineRanges x = new AffineRanges();
        set(check, x, 0, 100000, 100000, 256);
        set(check, x, 0, 100001, 100001, -2);
        set(check, x, 0, 100001, 100000, -2);
        check.due("domain(0, 0)", x.domain(0, 0), 1100000);
    }

    @Says("- `hi`: lo to 100000")
    static void hiFromLo(Check check) {
        int[] los = {-100000, -5, 0, 5, 99999};
        for (int lo : los) {
            AffineRanges x = new AffineRanges();
            set(check, x, 3, lo, lo - 1, -2);
            set(check, x, 3, lo, lo, 256);
            set(check, x, 3, lo, lo + 1, 0);
        }
    }

    @Says("- `hi`: lo to 100000")
    static void greatestHi(Check check) {
        AffineRanges x = new AffineRanges();
        set(check, x, 1, 0, 100000, 256);
        set(check, x, 1, 0, 100001, -2);
        set(check, x, 1, 99999, 100001, -2);
        check.due("domain(1, 1)", x.domain(1, 1), 1100000);
    }

    @Says("BAD_VALUE if lo or hi is out of range.")
    static void farOutOfRange(Check check) {
        AffineRanges x = new AffineRanges();
        int min = Integer.MIN_VALUE;
        int max = Integer.MAX_VALUE;
        int[][] wrong = {{min, 0}, {min, max}, {min, min}, {max, max}, {max, min}, {0, max}, {0, min}, {-200000, 200000}, {min + 100000, max}};
        for (int[] ends : wrong) set(check, x, 2, ends[0], ends[1], -2);
    }

    @Says("Returns the width hi - lo that it had before")
    static void widthBefore(Check check) {
        AffineRanges x = new AffineRanges();
        set(check, x, 0, -100000, 100000, 256);
        set(check, x, 1, 7, 7, 256);
        set(check, x, 0, 7, 7, 200000);
        set(check, x, 0, -9, -8, 0);
        set(check, x, 0, 0, 0, 1);
        set(check, x, 1, 7, 8, 0);
    }

    @Says("There are four inputs, 0 to 3, written a to d.")
    static void fourInputs(Check check) {
        String[] names = {"a", "b", "c", "d"};
        for (int input = 0; input < 4; input++) {
            AffineRanges x = Calls.with(names[input]);
            set(check, x, input, 7, 9, 256);
            check.due("bound(0, 1, 0) of " + names[input], x.bound(0, 1, 0), 7);
            check.due("bound(0, 1, 1) of " + names[input], x.bound(0, 1, 1), 9);
        }
        AffineRanges x = new AffineRanges();
        set(check, x, 4, 7, 9, -1);
        set(check, x, -1, 7, 9, -1);
    }

    @Says("NO_SUCH if there is no such input")
    static void noSuchInput(Check check) {
        AffineRanges x = new AffineRanges();
        for (int input : Calls.BAD_NUMBERS) set(check, x, input, 0, 1, -1);
    }

    @Says("it names its errors in the order in which they are checked, and the first that applies is returned")
    static void noSuchInputFirst(Check check) {
        AffineRanges x = new AffineRanges();
        set(check, x, 4, 1, 0, -1);
        set(check, x, -1, -100001, 0, -1);
        set(check, x, 4, 0, 100001, -1);
        set(check, x, 3, 0, 100001, -2);
    }

    @Says("A call that returns an error code changes nothing.")
    static void refusedCallChangesNothing(Check check) {
        Twins.changesNothing(check, "setDomain(-1, 1, 2)", -1, x -> x.setDomain(-1, 1, 2));
        Twins.changesNothing(check, "setDomain(4, 1, 2)", -1, x -> x.setDomain(4, 1, 2));
        Twins.changesNothing(check, "setDomain(0, 1, 0)", -2, x -> x.setDomain(0, 1, 0));
        Twins.changesNothing(check, "setDomain(3, -100001, 5)", -2, x -> x.setDomain(3, -100001, 5));
        Twins.changesNothing(check, "setDomain(1, 5, 100001)", -2, x -> x.setDomain(1, 5, 100001));
    }
}
