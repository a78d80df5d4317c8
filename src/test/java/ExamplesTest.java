/** The document's four examples, call by call. */
final class ExamplesTest {
    private ExamplesTest() {
    }

    static void run(Check check) {
        difference(check);
        square(check);
        division(check);
        errors(check);
    }

    private static void difference(Check check) {
        AffineRanges x = new AffineRanges();
        check.due("1 say(97)", x.say(97), 1);
        check.due("1 say(45)", x.say(45), 2);
        check.due("1 say(97)", x.say(97), 3);
        check.due("1 load(0)", x.load(0), 3);
        check.due("1 bound(0, 0, 0)", x.bound(0, 0, 0), 0);
        check.due("1 bound(0, 0, 1)", x.bound(0, 0, 1), 0);
        check.due("1 bound(0, 1, 0)", x.bound(0, 1, 0), -256);
        check.due("1 bound(0, 1, 1)", x.bound(0, 1, 1), 256);
        check.due("1 gain(0)", x.gain(0), 512);
        check.due("1 dominant(0)", x.dominant(0), -6);
    }

    private static void square(Check check) {
        AffineRanges x = new AffineRanges();
        check.due("2 setDomain(0, -256, 256)", x.setDomain(0, -256, 256), 256);
        check.due("2 say(97)", x.say(97), 1);
        check.due("2 say(94)", x.say(94), 2);
        check.due("2 say(50)", x.say(50), 3);
        check.due("2 load(0)", x.load(0), 2);
        check.due("2 bound(0, 0, 0)", x.bound(0, 0, 0), 0);
        check.due("2 bound(0, 1, 0)", x.bound(0, 1, 0), 0);
        check.due("2 part(0, 4)", x.part(0, 4), 128);
        check.due("2 part(0, 13)", x.part(0, 13), 0);
        check.due("2 sample(0, 1, 1)", x.sample(0, 1, 1), 256);
        check.due("2 prove(0, -1, 9)", x.prove(0, -1, 9), 1);
    }

    private static void division(Check check) {
        AffineRanges x = new AffineRanges();
        check.due("3 say(49)", x.say(49), 1);
        check.due("3 say(47)", x.say(47), 2);
        check.due("3 say(98)", x.say(98), 3);
        check.due("3 load(0)", x.load(0), 3);
        check.due("3 reason(0)", x.reason(0), 1);
        check.due("3 setDomain(1, 128, 512)", x.setDomain(1, 128, 512), 256);
        check.due("3 bound(0, 2, 0)", x.bound(0, 2, 0), 128);
        check.due("3 bound(0, 2, 1)", x.bound(0, 2, 1), 512);
        check.due("3 part(0, 4)", x.part(0, 4), 192);
        check.due("3 step(0, -1, 0)", x.step(0, -1, 0), 3);
        check.due("3 trace(0, 1, 1)", x.trace(0, 1, 1), 512);
    }

    private static void errors(Check check) {
        AffineRanges x = new AffineRanges();
        check.due("4 say(97)", x.say(97), 1);
        check.due("4 say(94)", x.say(94), 2);
        check.due("4 say(53)", x.say(53), 3);
        check.due("4 fault()", x.fault(), 2);
        check.due("4 load(0)", x.load(0), -3);
        check.due("4 wipe()", x.wipe(), 3);
        check.due("4 bound(0, 0, 0)", x.bound(0, 0, 0), -1000000000000000001L);
        check.due("4 setDomain(0, 5, 4)", x.setDomain(0, 5, 4), -2);
        check.due("4 prove(0, 0, 1)", x.prove(0, 0, 1), -1);
        check.due("4 proof(0)", x.proof(0), -1000000000000000006L);
        check.due("4 restore(0)", x.restore(0), -5);
    }
}
