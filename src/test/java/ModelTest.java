import java.util.Random;

/** Runs of calls drawn from fixed seeds, answered by the class and by the model. */
final class ModelTest {
    private static final int RUNS = 400;
    private static final int CALLS = 512;

    private final Check check;
    private final Random random;
    private final AffineRanges ranges = new AffineRanges();
    private final Model model = new Model();
    private final int seed;
    private int calls = 0;
    private String expressions = "";

    private ModelTest(Check check, int seed) {
        this.check = check;
        this.seed = seed;
        this.random = new Random(seed);
    }

    static void run(Check check) {
        for (int seed = 1; seed <= RUNS; seed++) new ModelTest(check, seed).oneRun();
        texts(check);
    }

    /** Each text of a fixed draw, and each of its beginnings. */
    private static void texts(Check check) {
        for (int seed = 1; seed <= 2000; seed++) {
            Random random = new Random(seed);
            String text = Texts.any(random, 1 + random.nextInt(20));
            AffineRanges ranges = new AffineRanges();
            for (int i = 0; i <= text.length(); i++) {
                check.due("fault of " + text.substring(0, i), ranges.fault(), Model.faultOf(text.substring(0, i)));
                if (i < text.length()) ranges.say(text.charAt(i));
            }
        }
    }

    private void oneRun() {
        int wrong = check.wrong();
        // The slower calls are rare in most runs, so that the model keeps up.
        while (calls < CALLS && check.wrong() == wrong) oneCall();
    }

    private void due(String call, long got, long want) {
        calls++;
        check.due("seed " + seed + ", call " + calls + ", " + call + " [" + expressions + " ]", got, want);
    }

    private int draw(int bound) {
        return random.nextInt(bound);
    }

    /** Mostly from 0 to most, seldom just outside. */
    private int near(int most) {
        if (draw(30) == 0) return draw(2) == 0 ? -1 : most + 1;
        return draw(most + 1);
    }

    private int expression() {
        return near(3);
    }

    private void oneCall() {
        switch (draw(30)) {
            case 0: case 1: case 2: enter(); break;
            case 3: case 4: domains(); break;
            case 5: symbols(); break;
            case 6: settings(); break;
            case 7: steps(); break;
            case 8: saving(); break;
            case 9: pad(); break;
            case 10: case 11: case 12: bounds(); break;
            case 13: case 14: case 15: parts(); break;
            case 16: case 17: case 18: traces(); break;
            case 19: case 20: forms(); break;
            case 21: case 22: samples(); break;
            case 23: case 24: compares(); break;
            case 25: case 26: proofs(); break;
            case 27: tightens(); break;
            default: roots(); break;
        }
    }

    private void enter() {
        if (draw(10) > 0) due("wipe()", ranges.wipe(), model.wipe());
        String text = Texts.any(random, draw(4) == 0 ? 6 : 48);
        for (int i = 0; i < text.length(); i++) due("say " + text.charAt(i), ranges.say(text.charAt(i)), model.say(text.charAt(i)));
        if (draw(3) == 0) due("fault()", ranges.fault(), model.fault());
        int e = expression();
        expressions += " " + e + ":" + text;
        due("load(" + e + ")", ranges.load(e), model.load(e));
    }

    private void pad() {
        int c = draw(5) == 0 ? near(200) : 40 + draw(10);
        due("say(" + c + ")", ranges.say(c), model.say(c));
        due("fault()", ranges.fault(), model.fault());
        if (draw(2) == 0) due("wipe()", ranges.wipe(), model.wipe());
    }

    private void domains() {
        int input = near(3);
        int[] scales = {3, 40, 300, 2000, 20000, 100000};
        int scale = scales[draw(scales.length)];
        int lo = draw(2 * scale + 1) - scale;
        int hi = draw(3) == 0 ? lo + draw(3) : lo + draw(scale);
        if (draw(20) == 0) hi = lo - draw(3);
        due("setDomain(" + input + ", " + lo + ", " + hi + ")", ranges.setDomain(input, lo, hi), model.setDomain(input, lo, hi));
        int side = near(1);
        due("domain(" + input + ", " + side + ")", ranges.domain(input, side), model.domain(input, side));
    }

    private void symbols() {
        int n = near(8);
        due("setSymbols(" + n + ")", ranges.setSymbols(n), model.setSymbols(n));
    }

    private void settings() {
        int what = near(3);
        due("count(" + what + ")", ranges.count(what), model.count(what));
    }

    private void steps() {
        int e = expression();
        int step = draw(20) - 1;
        int what = near(1);
        due("step(" + e + ", " + step + ", " + what + ")", ranges.step(e, step, what), model.step(e, step, what));
        due("inputs(" + e + ")", ranges.inputs(e), model.inputs(e));
    }

    private void saving() {
        int slot = near(1);
        if (draw(2) == 0) due("save(" + slot + ")", ranges.save(slot), model.save(slot));
        else due("restore(" + slot + ")", ranges.restore(slot), model.restore(slot));
    }

    private void bounds() {
        int e = expression();
        int kind = near(2);
        int side = near(1);
        due("bound(" + e + ", " + kind + ", " + side + ")", ranges.bound(e, kind, side), model.bound(e, kind, side));
    }

    private void parts() {
        int e = expression();
        int what = near(14);
        due("part(" + e + ", " + what + ")", ranges.part(e, what), model.part(e, what));
    }

    private void traces() {
        int e = expression();
        int step = draw(25) - 1;
        int side = near(1);
        due("trace(" + e + ", " + step + ", " + side + ")", ranges.trace(e, step, side), model.trace(e, step, side));
    }

    private void forms() {
        int e = expression();
        due("reason(" + e + ")", ranges.reason(e), model.reason(e));
        due("dominant(" + e + ")", ranges.dominant(e), model.dominant(e));
        due("gain(" + e + ")", ranges.gain(e), model.gain(e));
    }

    private void samples() {
        int e = expression();
        int position = near(255);
        int side = near(1);
        due("sample(" + e + ", " + position + ", " + side + ")", ranges.sample(e, position, side), model.sample(e, position, side));
    }

    private void compares() {
        int e = expression();
        int other = expression();
        due("compare(" + e + ", " + other + ")", ranges.compare(e, other), model.compare(e, other));
    }

    private void proofs() {
        int e = expression();
        int most = draw(30) == 0 ? draw(203) - 1 : draw(12);
        int limit = draw(30) == 0 ? draw(4) * 1000001 - 2000002 : draw(2000) - 1000;
        long end = model.bound(e, 2, 0);
        // A limit near the lower end makes the search long.
        if (draw(2) == 0 && end > -900000 && end < 900000) limit = (int) end - 1 + draw(40);
        due("prove(" + e + ", " + limit + ", " + most + ")", ranges.prove(e, limit, most), model.prove(e, limit, most));
        for (int i = 0; i <= 8; i++) due("proof(" + i + ")", ranges.proof(i), model.proof(i));
        int what = near(8);
        due("proof(" + what + ")", ranges.proof(what), model.proof(what));
    }

    private void tightens() {
        int e = expression();
        int times = draw(30) == 0 ? draw(104) - 1 : draw(15);
        int side = near(1);
        due("tighten(" + e + ", " + times + ", " + side + ")", ranges.tighten(e, times, side), model.tighten(e, times, side));
    }

    private void roots() {
        int e = expression();
        int input = near(3);
        int n = near(16);
        due("roots(" + e + ", " + input + ", " + n + ")", ranges.roots(e, input, n), model.roots(e, input, n));
    }

    /** Texts drawn by the grammar, some of them with a slip. */
    private static final class Texts {
        static String any(Random random, int most) {
            String text = expression(random, most);
            if (random.nextInt(6) > 0) return text;
            String characters = "abcdeARLG()^,.+-*/0123456789^^,.-";
            char c = characters.charAt(random.nextInt(characters.length()));
            int at = random.nextInt(text.length() + 1);
            int rest = random.nextInt(2) == 0 || at == text.length() ? at : at + 1;
            String changed = text.substring(0, at) + c + text.substring(rest);
            return changed.length() > most ? changed.substring(0, most) : changed;
        }

        /** An expression of at most so many characters, at least one. */
        static String expression(Random random, int most) {
            if (most >= 2 && random.nextInt(6) == 0) return "-" + sum(random, most - 1);
            return sum(random, most);
        }

        private static String sum(Random random, int most) {
            String text = term(random, most);
            while (most - text.length() >= 2 && random.nextInt(2) == 0) {
                text += "+-".charAt(random.nextInt(2)) + term(random, most - text.length() - 1);
            }
            return text;
        }

        private static String term(Random random, int most) {
            String text = factor(random, most);
            while (most - text.length() >= 2 && random.nextInt(5) < 2) {
                text += "**/".charAt(random.nextInt(3)) + factor(random, most - text.length() - 1);
            }
            return text;
        }

        private static String factor(Random random, int most) {
            if (most < 3 || random.nextInt(4) > 0) return atom(random, most);
            return atom(random, most - 2) + "^" + (2 + random.nextInt(3));
        }

        private static String atom(Random random, int most) {
            int part = 1 + random.nextInt(Math.max(most, 1));
            int kind = random.nextInt(12);
            if (kind < 2 && most >= 3) return "(" + expression(random, Math.min(part, most - 2)) + ")";
            if (kind < 4 && most >= 4) return "AR".charAt(kind - 2) + "(" + expression(random, Math.min(part, most - 3)) + ")";
            if (kind < 7 && most >= 6) {
                String left = expression(random, Math.min(part, most - 5));
                return "LG".charAt(kind % 2) + "(" + left + "," + expression(random, most - 4 - left.length()) + ")";
            }
            if (kind < 8) return number(random, most);
            return "" + (char) ('a' + random.nextInt(random.nextInt(2) == 0 ? 4 : 2));
        }

        private static String number(Random random, int most) {
            int[] bounds = {10, 100, 1000};
            String text = "" + random.nextInt(bounds[random.nextInt(Math.min(most, 3))]);
            int left = most - text.length();
            if (left >= 2 && random.nextInt(2) == 0) {
                text += "." + random.nextInt(10);
                if (left >= 3 && random.nextInt(2) == 0) text += random.nextInt(10);
            }
            return text;
        }
    }
}
