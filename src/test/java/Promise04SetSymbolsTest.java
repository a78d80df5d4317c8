/** Promise 4: setSymbols. */
final class Promise04SetSymbolsTest {
    private Promise04SetSymbolsTest() {
    }

    @Says("- `symbols`: 0 to 8")
    static void none(Check check) {
        AffineRanges x = new AffineRanges();
        check.due("setSymbols(-1)", x.setSymbols(-1), -2);
        check.due("setSymbols(0)", x.setSymbols(0), 4);
        check.due("count(2)", x.count(2), 0);
    }

    @Says("- `symbols`: 0 to 8")
    static void all(Check check) {
        AffineRanges x = new AffineRanges();
        check.due("setSymbols(9)", x.setSymbols(9), -2);
        check.due("setSymbols(8)", x.setSymbols(8), 4);
        check.due("count(2)", x.count(2), 8);
    }

    @Says("Returns the previous value")
    static void previousValue(Check check) {
        AffineRanges x = new AffineRanges();
        check.due("setSymbols(0)", x.setSymbols(0), 4);
        for (int i = 1; i <= 8; i++) check.due("setSymbols(" + i + ")", x.setSymbols(i), i - 1);
        check.due("setSymbols(8), again", x.setSymbols(8), 8);
        check.due("setSymbols(0)", x.setSymbols(0), 8);
    }

    @Says("BAD_VALUE if symbols is out of range.")
    static void outOfRange(Check check) {
        AffineRanges x = new AffineRanges();
        int[] wrong = {Integer.MIN_VALUE, -8, -2, -1, 9, 10, 12, 256, Integer.MAX_VALUE};
        for (int symbols : wrong) check.due("setSymbols(" + symbols + ")", x.setSymbols(symbols), -2);
        check.due("count(2)", x.count(2), 4);
    }

    @Says("A call that returns an error code changes nothing.")
    static void refusedCallChangesNothing(Check check) {
        Twins.changesNothing(check, "setSymbols(-1)", -2, x -> x.setSymbols(-1));
        Twins.changesNothing(check, "setSymbols(9)", -2, x -> x.setSymbols(9));
    }

    @Says("If it is not 0, after each MULTIPLY, SQUARE, DIVIDE, ABSOLUTE, ROOT, LEAST and GREATEST")
    static void noNameIfItIsZero(Check check) {
        String[] texts = {"a*b", "a^2", "1/a", "A(a)", "R(b)", "L(a,b)", "G(a,b)"};
        int[] kinds = {9, 10, 11, 12, 13, 14, 15};
        for (int i = 0; i < texts.length; i++) {
            AffineRanges x = Calls.over(Calls.with(texts[i]), texts[i].equals("A(a)") ? -64 : 64, 512);
            check.due("last step of " + texts[i], x.step(0, x.step(0, -1, 0) - 1, 0), kinds[i]);
            long named = x.part(0, 4);
            check.that(texts[i] + " has a name", named > 0);
            check.due("loose part of " + texts[i], x.part(0, 13), 0);
            x.setSymbols(0);
            for (int s = 4; s < 12; s++) check.due(texts[i] + " without names: part(0, " + s + ")", x.part(0, s), 0);
            check.due("loose part of " + texts[i] + " without names", x.part(0, 13), named);
        }
    }

    /** Nine squares of equal weight: so many have names of their own, the others' weights are in the loose part. */
    @Says("the lowest one of those that may be used, 4 to 3 + SYMBOLS")
    static void soManySymbols(Check check) {
        for (int symbols = 0; symbols <= 8; symbols++) {
            AffineRanges x = Calls.with("a^2+a^2+a^2+a^2+a^2+a^2+a^2+a^2+a^2");
            x.setSymbols(symbols);
            for (int s = 4; s < 12; s++) check.due(symbols + " symbols: part(0, " + s + ")", x.part(0, s), s < 4 + symbols ? 32 : 0);
            check.due(symbols + " symbols: part(0, 13)", x.part(0, 13), 32 * (9 - symbols));
        }
    }
}
