import java.math.BigInteger;
import java.util.ArrayList;
import java.util.HashSet;
import java.util.List;
import java.util.Set;

/**
 * The document told a second time, without regard to room or speed: numbers without bounds, forms that
 * never change, operands told by their steps' numbers, and the grammar as rules that rewrite texts.
 */
final class Model {
    static final long GONE = -1000000000000000000L;
    static final BigInteger LARGEST = BigInteger.valueOf(1000000000);

    record Step(int kind, int value, int left, int right) {}

    record Range(int lo, int hi) {}

    /** A form; why is 0 if it is not wild. */
    record Form(int why, BigInteger center, List<BigInteger> parts, BigInteger loose, BigInteger lo, BigInteger hi) {
        BigInteger radius() {
            BigInteger sum = loose;
            for (BigInteger part : parts) sum = sum.add(part.abs());
            return sum;
        }

        BigInteger low() {
            return center.subtract(radius()).max(lo);
        }

        BigInteger high() {
            return center.add(radius()).min(hi);
        }

        long end(int side) {
            if (why != 0) return GONE - 5;
            return (side == 0 ? low() : high()).longValueExact();
        }
    }

    private String pad = "";
    private List<Range> box = new ArrayList<>();
    private int symbols = 4;
    private List<List<Step>> expressions = new ArrayList<>();
    private final List<List<Range>> savedBoxes = new ArrayList<>();
    private final List<Integer> savedSymbols = new ArrayList<>();
    private final List<List<List<Step>>> savedExpressions = new ArrayList<>();
    private int proofCount = -1;
    private List<Range> proofBox;

    Model() {
        for (int i = 0; i < 4; i++) {
            box.add(new Range(0, 256));
            expressions.add(null);
        }
        for (int i = 0; i < 2; i++) {
            savedBoxes.add(null);
            savedSymbols.add(null);
            savedExpressions.add(null);
        }
    }

    // ---- calls

    int setDomain(int input, int lo, int hi) {
        if (input < 0 || input > 3) return -1;
        if (lo < -100000 || lo > 100000 || hi < lo || hi > 100000) return -2;
        Range old = box.get(input);
        box = with(box, input, new Range(lo, hi));
        return old.hi - old.lo;
    }

    int domain(int input, int side) {
        if (input < 0 || input > 3) return -1;
        if (side != 0 && side != 1) return -2;
        return (side == 0 ? box.get(input).lo : box.get(input).hi) + 1000000;
    }

    int setSymbols(int wanted) {
        if (wanted < 0 || wanted > 8) return -2;
        int old = symbols;
        symbols = wanted;
        return old;
    }

    int say(int character) {
        if (character < 33 || character > 126) return -2;
        if (pad.length() == 48) return -4;
        pad += (char) character;
        return pad.length();
    }

    int wipe() {
        int length = pad.length();
        pad = "";
        return length;
    }

    int fault() {
        return faultOf(pad);
    }

    int load(int expression) {
        if (expression < 0 || expression > 3) return -1;
        if (fault() != -6) return -3;
        List<Step> steps = new Parser(pad).parse();
        expressions.set(expression, steps);
        pad = "";
        return steps.size();
    }

    int step(int expression, int step, int what) {
        List<Step> steps = find(expression);
        if (steps == null) return -1;
        if (step < -1 || step >= steps.size()) return -1;
        if (what < 0 || what > 1) return -2;
        if (step == -1) return steps.size();
        if (what == 0) return steps.get(step).kind;
        return steps.get(step).kind == 0 ? steps.get(step).value : -6;
    }

    int inputs(int expression) {
        List<Step> steps = find(expression);
        if (steps == null) return -1;
        int set = 0;
        for (int i = 0; i < 4; i++) {
            for (Step step : steps) {
                if (step.kind == i + 1) set |= 1 << i;
            }
        }
        return set;
    }

    int reason(int expression) {
        List<Step> steps = find(expression);
        if (steps == null) return -1;
        for (Form form : allForms(steps, box)) {
            if (form.why != 0) return form.why;
        }
        return 0;
    }

    long bound(int expression, int kind, int side) {
        List<Step> steps = find(expression);
        if (steps == null) return GONE - 1;
        if (kind < 0 || kind > 2 || side < 0 || side > 1) return GONE - 2;
        Form form = formOver(steps, box);
        if (form.why != 0) return GONE - 5;
        if (kind == 0) {
            BigInteger radius = side == 0 ? form.radius().negate() : form.radius();
            return form.center.add(radius).longValueExact();
        }
        if (kind == 1) return (side == 0 ? form.lo : form.hi).longValueExact();
        return form.end(side);
    }

    long part(int expression, int what) {
        List<Step> steps = find(expression);
        if (steps == null) return GONE - 1;
        if (what < 0 || what > 14) return GONE - 2;
        Form form = formOver(steps, box);
        if (form.why != 0) return GONE - 5;
        if (what == 12) return form.center.longValueExact();
        if (what == 13) return form.loose.longValueExact();
        if (what == 14) return form.radius().longValueExact();
        return form.parts.get(what).longValueExact();
    }

    long trace(int expression, int step, int side) {
        List<Step> steps = find(expression);
        if (steps == null || step < 0 || step >= steps.size()) return GONE - 1;
        if (side < 0 || side > 1) return GONE - 2;
        return allForms(steps, box).get(step).end(side);
    }

    int dominant(int expression) {
        List<Step> steps = find(expression);
        if (steps == null) return -1;
        Form form = formOver(steps, box);
        if (form.why != 0) return -5;
        int best = -6;
        for (int i = 3; i >= 0; i--) {
            BigInteger weight = form.parts.get(i).abs();
            if (weight.signum() == 0) continue;
            if (best < 0 || weight.compareTo(form.parts.get(best).abs()) >= 0) best = i;
        }
        return best;
    }

    long gain(int expression) {
        List<Step> steps = find(expression);
        if (steps == null) return GONE - 1;
        Form form = formOver(steps, box);
        if (form.why != 0) return GONE - 5;
        return form.hi.subtract(form.lo).subtract(form.radius().add(form.radius())).longValueExact();
    }

    long sample(int expression, int position, int side) {
        List<Step> steps = find(expression);
        if (steps == null) return GONE - 1;
        if (position < 0 || position > 255 || side < 0 || side > 1) return GONE - 2;
        List<Range> point = new ArrayList<>();
        int rest = position;
        for (Range range : box) {
            int value = range.lo;
            if (rest % 4 == 1) value = range.hi;
            if (rest % 4 == 2) value = Math.floorDiv(range.lo + range.hi, 2);
            if (rest % 4 == 3) value = Math.floorDiv(3 * range.lo + range.hi, 4);
            point.add(new Range(value, value));
            rest /= 4;
        }
        return formOver(steps, point).end(side);
    }

    int compare(int first, int second) {
        List<Step> left = find(first);
        List<Step> right = find(second);
        if (left == null || right == null) return -1;
        List<Step> both = new ArrayList<>(left);
        for (Step step : right) {
            int shift = left.size();
            both.add(new Step(step.kind, step.value, step.left < 0 ? -1 : step.left + shift, step.right < 0 ? -1 : step.right + shift));
        }
        both.add(new Step(6, 0, left.size() - 1, both.size() - 1));
        Form form = formOver(both, box);
        if (form.why != 0) return -5;
        if (form.end(0) > 0) return 1;
        if (form.end(1) < 0) return 2;
        return form.end(0) == 0 && form.end(1) == 0 ? 3 : 0;
    }

    int prove(int expression, int limit, int most) {
        List<Step> steps = find(expression);
        if (steps == null) return -1;
        if (limit < -1000000 || limit > 1000000 || most < 1 || most > 200) return -2;
        List<List<Range>> list = new ArrayList<>();
        list.add(box);
        proofCount = 0;
        while (!list.isEmpty()) {
            proofBox = list.remove(list.size() - 1);
            proofCount++;
            Form form = formOver(steps, proofBox);
            if (form.why == 0 && form.end(0) > limit) continue;
            List<Range> point = new ArrayList<>();
            for (Range range : proofBox) {
                int middle = Math.floorDiv(range.lo + range.hi, 2);
                point.add(new Range(middle, middle));
            }
            Form there = formOver(steps, point);
            if (there.why == 0 && there.end(1) <= limit) return 2;
            if (proofCount >= most) return 3;
            List<List<Range>> parts = split(proofBox, form);
            if (parts == null) return 3;
            list.add(parts.get(1));
            list.add(parts.get(0));
        }
        return 1;
    }

    long proof(int what) {
        if (what < 0 || what > 8) return GONE - 2;
        if (proofCount < 0) return GONE - 6;
        if (what == 0) return proofCount;
        return what < 5 ? proofBox.get(what - 1).lo : proofBox.get(what - 5).hi;
    }

    long tighten(int expression, int times, int side) {
        List<Step> steps = find(expression);
        if (steps == null) return GONE - 1;
        if (times < 0 || times > 100 || side < 0 || side > 1) return GONE - 2;
        List<List<Range>> list = new ArrayList<>();
        List<Form> forms = new ArrayList<>();
        list.add(box);
        forms.add(formOver(steps, box));
        for (int i = 0; i < times; i++) {
            int taken = worst(forms, side);
            List<List<Range>> parts = split(list.get(taken), forms.get(taken));
            if (parts == null) break;
            list.set(taken, parts.get(0));
            forms.set(taken, formOver(steps, parts.get(0)));
            list.add(parts.get(1));
            forms.add(formOver(steps, parts.get(1)));
        }
        return forms.get(worst(forms, side)).end(side);
    }

    int roots(int expression, int input, int n) {
        List<Step> steps = find(expression);
        if (steps == null || input < 0 || input > 3) return -1;
        if (n < 1 || n > 16) return -2;
        int set = 0;
        long lo = box.get(input).lo;
        long w = box.get(input).hi - lo;
        for (int k = 0; k < n; k++) {
            int from = (int) (lo + Math.floorDiv(w * k, n));
            int to = (int) (lo + Math.floorDiv(w * (k + 1), n));
            Form form = formOver(steps, with(box, input, new Range(from, to)));
            if (form.why != 0 || form.end(0) <= 0 && form.end(1) >= 0) set |= 1 << k;
        }
        return set;
    }

    int count(int what) {
        int number = 0;
        switch (what) {
            case 0:
                for (int i = 0; i < 4; i++) number += expressions.get(i) == null ? 0 : 1 << i;
                return number;
            case 1:
                return pad.length();
            case 2:
                return symbols;
            case 3:
                for (Range range : box) number += range.lo < range.hi ? 1 : 0;
                return number;
            default:
                return -2;
        }
    }

    int save(int slot) {
        if (slot < 0 || slot > 1) return -2;
        savedBoxes.set(slot, box);
        savedSymbols.set(slot, symbols);
        savedExpressions.set(slot, new ArrayList<>(expressions));
        return count(0);
    }

    int restore(int slot) {
        if (slot < 0 || slot > 1) return -2;
        if (savedBoxes.get(slot) == null) return -5;
        box = savedBoxes.get(slot);
        symbols = savedSymbols.get(slot);
        expressions = new ArrayList<>(savedExpressions.get(slot));
        return count(0);
    }

    // ---- boxes

    private List<Step> find(int expression) {
        return expression < 0 || expression > 3 ? null : expressions.get(expression);
    }

    private static List<Range> with(List<Range> ranges, int input, Range range) {
        List<Range> changed = new ArrayList<>(ranges);
        changed.set(input, range);
        return changed;
    }

    private static int worst(List<Form> forms, int side) {
        for (int i = 0; i < forms.size(); i++) {
            if (forms.get(i).why != 0) return i;
        }
        int worst = 0;
        for (int i = 1; i < forms.size(); i++) {
            long end = forms.get(i).end(side);
            long other = forms.get(worst).end(side);
            if (side == 0 ? end < other : end > other) worst = i;
        }
        return worst;
    }

    private static List<List<Range>> split(List<Range> ranges, Form form) {
        int chosen = -1;
        BigInteger best = BigInteger.ZERO;
        for (int i = 0; i < 4 && form.why == 0; i++) {
            BigInteger weight = form.parts.get(i).abs();
            if (ranges.get(i).lo < ranges.get(i).hi && weight.compareTo(best) > 0) {
                chosen = i;
                best = weight;
            }
        }
        int widest = 0;
        for (int i = 0; i < 4 && best.signum() == 0; i++) {
            int width = ranges.get(i).hi - ranges.get(i).lo;
            if (width > widest) {
                chosen = i;
                widest = width;
            }
        }
        if (chosen < 0) return null;
        int lo = ranges.get(chosen).lo;
        int hi = ranges.get(chosen).hi;
        int mid = Math.floorDiv(lo + hi, 2);
        Range lower = hi == lo + 1 ? new Range(lo, lo) : new Range(lo, mid);
        Range upper = hi == lo + 1 ? new Range(hi, hi) : new Range(mid, hi);
        return List.of(with(ranges, chosen, lower), with(ranges, chosen, upper));
    }

    // ---- evaluation

    private Form formOver(List<Step> steps, List<Range> ranges) {
        List<Form> forms = allForms(steps, ranges);
        return forms.get(forms.size() - 1);
    }

    /** The form of each step, as it is directly after this step; but the last one may be told whole. */
    private List<Form> allForms(List<Step> steps, List<Range> ranges) {
        List<Form> directly = new ArrayList<>();
        List<Form> present = new ArrayList<>();
        Set<Integer> waiting = new HashSet<>();
        for (int i = 0; i < steps.size(); i++) {
            Step step = steps.get(i);
            if (step.kind != 8) {
                waiting.remove(step.left);
                waiting.remove(step.right);
            }
            Form x = step.left < 0 ? null : present.get(step.left);
            Form y = step.right < 0 ? null : present.get(step.right);
            present.add(sized(result(step, x, y, ranges)));
            waiting.add(i);
            if (step.kind >= 9 && symbols > 0) name(present, waiting, i);
            directly.add(present.get(i));
        }
        return directly;
    }

    private void name(List<Form> present, Set<Integer> waiting, int made) {
        Form result = present.get(made);
        if (result.why != 0 || result.loose.signum() == 0) return;
        int symbol = -1;
        for (int s = 4; s < 4 + symbols && symbol < 0; s++) {
            if (weight(present, waiting, s).signum() == 0) symbol = s;
        }
        if (symbol < 0) {
            symbol = 4;
            for (int s = 5; s < 4 + symbols; s++) {
                if (weight(present, waiting, s).compareTo(weight(present, waiting, symbol)) < 0) symbol = s;
            }
            for (int i : waiting) {
                Form form = present.get(i);
                if (form.why != 0) continue;
                BigInteger loose = form.loose.add(form.parts.get(symbol).abs());
                present.set(i, changed(form, symbol, BigInteger.ZERO, loose));
            }
        }
        result = present.get(made);
        present.set(made, changed(result, symbol, result.loose, BigInteger.ZERO));
    }

    private static BigInteger weight(List<Form> present, Set<Integer> waiting, int symbol) {
        BigInteger sum = BigInteger.ZERO;
        for (int i : waiting) {
            if (present.get(i).why == 0) sum = sum.add(present.get(i).parts.get(symbol).abs());
        }
        return sum;
    }

    private static Form changed(Form form, int symbol, BigInteger part, BigInteger loose) {
        List<BigInteger> parts = new ArrayList<>(form.parts);
        parts.set(symbol, part);
        return new Form(0, form.center, parts, loose, form.lo, form.hi);
    }

    private static Form sized(Form form) {
        if (form.why != 0) return form;
        boolean large = form.center.abs().compareTo(LARGEST) > 0 || form.radius().compareTo(LARGEST) > 0
                || form.lo.abs().compareTo(LARGEST) > 0 || form.hi.abs().compareTo(LARGEST) > 0;
        return large ? wild(3) : form;
    }

    private static Form wild(int why) {
        return new Form(why, null, null, null, null, null);
    }

    private static BigInteger big(long value) {
        return BigInteger.valueOf(value);
    }

    private static BigInteger down(BigInteger value, BigInteger by) {
        BigInteger[] both = value.divideAndRemainder(by);
        boolean less = both[1].signum() != 0 && both[1].signum() != by.signum();
        return less ? both[0].subtract(BigInteger.ONE) : both[0];
    }

    private static BigInteger up(BigInteger value, BigInteger by) {
        return down(value.negate(), by).negate();
    }

    private static boolean uneven(BigInteger value, long by) {
        return value.mod(big(by)).signum() != 0;
    }

    private static Form plain(BigInteger l, BigInteger u) {
        BigInteger center = down(l.add(u), big(2));
        List<BigInteger> parts = new ArrayList<>();
        for (int s = 0; s < 12; s++) parts.add(BigInteger.ZERO);
        return new Form(0, center, parts, u.subtract(center).max(center.subtract(l)), l, u);
    }

    private static Form result(Step step, Form x, Form y, List<Range> ranges) {
        if (step.kind == 0) {
            BigInteger hundredfold = big(256L * step.value);
            return plain(down(hundredfold, big(100)), up(hundredfold, big(100)));
        }
        if (step.kind <= 4) {
            Range range = ranges.get(step.kind - 1);
            Form form = plain(big(range.lo), big(range.hi));
            return changed(form, step.kind - 1, form.loose, BigInteger.ZERO);
        }
        if (x.why != 0) return wild(x.why);
        if (y != null && y.why != 0) return wild(y.why);
        switch (step.kind) {
            case 5: return sum(x, y);
            case 6: return sum(x, minus(y));
            case 7: return minus(x);
            case 8: return x;
            case 9: return product(x, y);
            case 10: return square(x);
            case 11: return quotient(x, y);
            case 12: return absolute(x);
            case 13: return root(x);
            case 14: return least(x, y);
            default: return greatest(x, y);
        }
    }

    private static Form sum(Form x, Form y) {
        List<BigInteger> parts = new ArrayList<>();
        for (int s = 0; s < 12; s++) parts.add(x.parts.get(s).add(y.parts.get(s)));
        return new Form(0, x.center.add(y.center), parts, x.loose.add(y.loose), x.lo.add(y.lo), x.hi.add(y.hi));
    }

    private static Form minus(Form x) {
        List<BigInteger> parts = new ArrayList<>();
        for (BigInteger part : x.parts) parts.add(part.negate());
        return new Form(0, x.center.negate(), parts, x.loose, x.hi.negate(), x.lo.negate());
    }

    private static Form product(Form x, Form y) {
        int uneven = uneven(x.center.multiply(y.center), 256) ? 1 : 0;
        List<BigInteger> parts = new ArrayList<>();
        for (int s = 0; s < 12; s++) {
            BigInteger part = x.center.multiply(y.parts.get(s)).add(y.center.multiply(x.parts.get(s)));
            uneven += uneven(part, 256) ? 1 : 0;
            parts.add(down(part, big(256)));
        }
        BigInteger loose = x.center.abs().multiply(y.loose).add(y.center.abs().multiply(x.loose)).add(x.radius().multiply(y.radius()));
        BigInteger least = null;
        BigInteger most = null;
        for (BigInteger one : List.of(x.lo, x.hi)) {
            for (BigInteger other : List.of(y.lo, y.hi)) {
                BigInteger value = one.multiply(other);
                least = least == null ? value : least.min(value);
                most = most == null ? value : most.max(value);
            }
        }
        return new Form(0, down(x.center.multiply(y.center), big(256)), parts, up(loose, big(256)).add(big(uneven)),
                down(least, big(256)), up(most, big(256)));
    }

    private static Form square(Form x) {
        BigInteger middle = x.center.pow(2).multiply(big(2)).add(x.radius().pow(2));
        int uneven = uneven(middle, 512) ? 1 : 0;
        List<BigInteger> parts = new ArrayList<>();
        for (int s = 0; s < 12; s++) {
            BigInteger part = x.center.multiply(x.parts.get(s)).multiply(big(2));
            uneven += uneven(part, 256) ? 1 : 0;
            parts.add(down(part, big(256)));
        }
        BigInteger loose = x.center.abs().multiply(x.loose).multiply(big(4)).add(x.radius().pow(2));
        BigInteger lesser = x.lo.abs().min(x.hi.abs()).pow(2);
        BigInteger greater = x.lo.abs().max(x.hi.abs()).pow(2);
        boolean across = x.lo.signum() <= 0 && x.hi.signum() >= 0;
        return new Form(0, down(middle, big(512)), parts, up(loose, big(512)).add(big(uneven)),
                across ? BigInteger.ZERO : down(lesser, big(256)), up(greater, big(256)));
    }

    private static Form quotient(Form x, Form y) {
        if (y.low().signum() <= 0 && y.high().signum() >= 0) return wild(1);
        return product(x, plain(down(big(65536), y.high()), up(big(65536), y.low())));
    }

    private static Form absolute(Form x) {
        if (x.low().signum() >= 0) return x;
        if (x.high().signum() <= 0) return minus(x);
        return plain(BigInteger.ZERO, x.low().negate().max(x.high()));
    }

    private static Form root(Form x) {
        if (x.high().signum() < 0) return wild(2);
        BigInteger[] top = x.high().multiply(big(256)).sqrtAndRemainder();
        BigInteger bottom = x.low().max(BigInteger.ZERO).multiply(big(256)).sqrt();
        return plain(bottom, top[1].signum() == 0 ? top[0] : top[0].add(BigInteger.ONE));
    }

    private static Form least(Form x, Form y) {
        if (x.high().compareTo(y.low()) <= 0) return x;
        if (y.high().compareTo(x.low()) <= 0) return y;
        return plain(x.low().min(y.low()), x.high().min(y.high()));
    }

    private static Form greatest(Form x, Form y) {
        if (x.low().compareTo(y.high()) >= 0) return x;
        if (y.low().compareTo(x.high()) >= 0) return y;
        return plain(x.low().max(y.low()), x.high().max(y.high()));
    }

    // ---- texts

    /** Each rule: what may stand for a letter. E expression, M more terms, T term, N more factors, F factor, P power, X atom, U number, W whole, D digit, Q digit but 0. */
    private static final String[] RULES = {
        "E=-TM", "E=TM", "M=", "M=+TM", "M=-TM", "T=FN", "N=", "N=*FN", "N=/FN", "F=XP", "P=", "P=^2", "P=^3", "P=^4",
        "X=a", "X=b", "X=c", "X=d", "X=U", "X=(E)", "X=A(E)", "X=R(E)", "X=L(E,E)", "X=G(E,E)",
        "U=W", "U=W.D", "U=W.DD", "W=D", "W=QD", "W=QDD",
        "D=0", "D=Q", "Q=1", "Q=2", "Q=3", "Q=4", "Q=5", "Q=6", "Q=7", "Q=8", "Q=9",
    };

    /** Follows all ways to derive the text at once; the fault is where the last of them ends. */
    static int faultOf(String text) {
        Set<String> ways = new HashSet<>(Set.of("<E>"));
        for (int i = 0; i < text.length(); i++) {
            Set<String> next = new HashSet<>();
            for (String way : opened(ways)) {
                if (!way.isEmpty() && way.charAt(0) == text.charAt(i)) next.add(way.substring(1));
            }
            if (next.isEmpty()) return i;
            ways = next;
        }
        return opened(ways).contains("") ? -6 : text.length();
    }

    /** The ways with their first letter replaced until it is a character of the text; a letter stands as "<E>". */
    private static Set<String> opened(Set<String> ways) {
        Set<String> open = new HashSet<>();
        List<String> due = new ArrayList<>(ways);
        while (!due.isEmpty()) {
            String way = due.remove(due.size() - 1);
            if (way.isEmpty() || way.charAt(0) != '<') {
                open.add(way);
                continue;
            }
            for (String rule : RULES) {
                if (rule.charAt(0) == way.charAt(1)) due.add(marked(rule.substring(2)) + way.substring(3));
            }
        }
        return open;
    }

    private static String marked(String right) {
        // A and R and L and G are characters of the text; the other capitals are letters of the rules.
        StringBuilder text = new StringBuilder();
        for (char c : right.toCharArray()) {
            if ("EMTNFPXUWDQ".indexOf(c) >= 0) text.append('<').append(c).append('>');
            else text.append(c);
        }
        return text.toString();
    }

    /** Reads a correct text from above. */
    private static final class Parser {
        private final String text;
        private int at = 0;
        private final List<Step> steps = new ArrayList<>();

        Parser(String text) {
            this.text = text + "$";
        }

        List<Step> parse() {
            expression();
            return steps;
        }

        private int add(int kind, int value, int left, int right) {
            steps.add(new Step(kind, value, left, right));
            return steps.size() - 1;
        }

        private boolean sees(String characters) {
            return characters.indexOf(text.charAt(at)) >= 0;
        }

        private int expression() {
            boolean negative = sees("-");
            if (negative) at++;
            int made = term();
            if (negative) made = add(7, 0, made, -1);
            while (sees("+-")) {
                int kind = text.charAt(at++) == '+' ? 5 : 6;
                int right = term();
                made = add(kind, 0, made, right);
            }
            return made;
        }

        private int term() {
            int made = factor();
            while (sees("*/")) {
                int kind = text.charAt(at++) == '*' ? 9 : 11;
                int right = factor();
                made = add(kind, 0, made, right);
            }
            return made;
        }

        private int factor() {
            int made = atom();
            if (!sees("^")) return made;
            int power = text.charAt(at + 1) - '0';
            at += 2;
            if (power == 2) return add(10, 0, made, -1);
            if (power == 4) return add(10, 0, add(10, 0, made, -1), -1);
            int copy = add(8, 0, made, -1);
            return add(9, 0, made, add(10, 0, copy, -1));
        }

        private int atom() {
            if (sees("abcd")) return add(text.charAt(at++) - 'a' + 1, 0, -1, -1);
            if (sees("0123456789")) return number();
            int kind = "(?ARLG".indexOf(text.charAt(at));
            at += kind == 0 ? 1 : 2;
            int made = expression();
            if (kind >= 4) {
                at++;
                int right = expression();
                made = add(kind + 10, 0, made, right);
            } else if (kind >= 2) {
                made = add(kind + 10, 0, made, -1);
            }
            at++;
            return made;
        }

        private int number() {
            int from = at;
            while (sees("0123456789.")) at++;
            String[] pieces = (text.substring(from, at) + ".0").split("\\.");
            int hundredths = Integer.parseInt((pieces[1] + "0").substring(0, 2));
            return add(0, Integer.parseInt(pieces[0]) * 100 + hundredths, -1, -1);
        }
    }
}
