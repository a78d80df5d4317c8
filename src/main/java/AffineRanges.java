import java.util.Arrays;

/**
 * Ranges of expressions by affine arithmetic beside plain interval arithmetic.
 * ../shared/DOC.md tells what each method promises. All rows are made by the constructor and used
 * again, because what a run of calls makes is counted and never given back.
 */
public final class AffineRanges {
    public static final int NO_SUCH = -1, BAD_VALUE = -2, BAD_TEXT = -3, TOO_MANY = -4, NOT_POSSIBLE = -5, NONE = -6;
    public static final long GONE = -1000000000000000000L;
    public static final int ZERO = 1, NEGATIVE = 2, LARGE = 3;
    public static final int NUMBER = 0, INPUT = 1, ADD = 5, SUBTRACT = 6, NEGATE = 7, COPY = 8, MULTIPLY = 9, SQUARE = 10, DIVIDE = 11, ABSOLUTE = 12, ROOT = 13, LEAST = 14, GREATEST = 15;
    public static final int AFFINE = 0, PLAIN = 1, BEST = 2;
    public static final int PROVED = 1, REFUTED = 2, OPEN = 3;

    private static final int ALL_INPUTS = 4;
    private static final int ALL_SYMBOLS = 12;
    private static final int FIRST_FREE_SYMBOL = 4;
    private static final int MOST_SYMBOLS = 8;
    private static final int ALL_EXPRESSIONS = 4;
    private static final int ALL_SLOTS = 2;
    private static final int PAD_LENGTH = 48;
    private static final int MOST_STEPS = 60;
    private static final int FARTHEST_END = 100000;
    private static final int FARTHEST_LIMIT = 1000000;
    private static final int END_OFFSET = 1000000;
    private static final long LARGEST = 1000000000L;
    private static final int MOST_TIMES = 100;
    private static final int MOST_COUNTED = 200;
    private static final int MOST_PARTS = 16;
    private static final int POSITIONS = 256;

    /** The most forms that wait at once: an operand that waits takes two characters of the pad. */
    private static final int MOST_WAITING = 32;

    /** The most boxes that prove() can make: one, and two more for each box that is split. */
    private static final int MOST_MADE = 2 * MOST_COUNTED;

    /** The most boxes that a list holds at once: each split, of fewer than 200, adds one. */
    private static final int MOST_BOXES = MOST_COUNTED;

    private final char[] pad = new char[PAD_LENGTH];
    private int padLength = 0;
    private final State now = new State();
    private final State[] slots = new State[ALL_SLOTS];
    private final boolean[] saved = new boolean[ALL_SLOTS];
    private final Reader reader = new Reader();
    private final Machine machine = new Machine();
    private final BoxList list = new BoxList();
    private final Box proofBox = new Box();
    private int proofCount = 0;
    private final Box point = new Box();
    private final Box lowerPart = new Box();
    private final Box upperPart = new Box();

    public AffineRanges() {
        for (int i = 0; i < ALL_SLOTS; i++) slots[i] = new State();
    }

    public int setDomain(int input, int lo, int hi) {
        if (!isInput(input)) return NO_SUCH;
        if (lo < -FARTHEST_END || lo > FARTHEST_END || hi < lo || hi > FARTHEST_END) return BAD_VALUE;
        int width = now.box.width(input);
        now.box.setEnds(input, lo, hi);
        return width;
    }

    public int domain(int input, int side) {
        if (!isInput(input)) return NO_SUCH;
        if (!isSide(side)) return BAD_VALUE;
        return END_OFFSET + (side == 0 ? now.box.lo[input] : now.box.hi[input]);
    }

    public int setSymbols(int symbols) {
        if (symbols < 0 || symbols > MOST_SYMBOLS) return BAD_VALUE;
        int previous = now.symbols;
        now.symbols = symbols;
        return previous;
    }

    public int say(int character) {
        if (character < 33 || character > 126) return BAD_VALUE;
        if (padLength >= PAD_LENGTH) return TOO_MANY;
        pad[padLength] = (char) character;
        padLength++;
        return padLength;
    }

    public int wipe() {
        int length = padLength;
        padLength = 0;
        return length;
    }

    public int fault() {
        return reader.read(pad, padLength);
    }

    public int load(int expression) {
        if (expression < 0 || expression >= ALL_EXPRESSIONS) return NO_SUCH;
        if (reader.read(pad, padLength) != NONE) return BAD_TEXT;
        now.expressions[expression].copyFrom(reader.made);
        padLength = 0;
        return reader.made.size;
    }

    public int step(int expression, int step, int what) {
        Steps steps = find(expression);
        if (steps == null || step < -1 || step >= steps.size) return NO_SUCH;
        if (what != 0 && what != 1) return BAD_VALUE;
        if (step == -1) return steps.size;
        if (what == 0) return steps.kinds[step];
        return steps.kinds[step] == NUMBER ? steps.values[step] : NONE;
    }

    public int inputs(int expression) {
        Steps steps = find(expression);
        if (steps == null) return NO_SUCH;
        int set = 0;
        for (int i = 0; i < steps.size; i++) {
            int kind = steps.kinds[i];
            if (kind >= INPUT && kind < ADD) set |= 1 << (kind - INPUT);
        }
        return set;
    }

    public int reason(int expression) {
        Steps steps = find(expression);
        if (steps == null) return NO_SUCH;
        return machine.evaluate(steps, steps.size, now.box, now.symbols).why;
    }

    public long bound(int expression, int kind, int side) {
        Steps steps = find(expression);
        if (steps == null) return gone(NO_SUCH);
        if (kind < AFFINE || kind > BEST || !isSide(side)) return gone(BAD_VALUE);
        Form form = machine.evaluate(steps, steps.size, now.box, now.symbols);
        if (form.why != 0) return gone(NOT_POSSIBLE);
        if (kind == AFFINE) return side == 0 ? form.center - form.radius : form.center + form.radius;
        if (kind == PLAIN) return side == 0 ? form.lo : form.hi;
        return form.bestEnd(side);
    }

    public long part(int expression, int what) {
        Steps steps = find(expression);
        if (steps == null) return gone(NO_SUCH);
        if (what < 0 || what > ALL_SYMBOLS + 2) return gone(BAD_VALUE);
        Form form = machine.evaluate(steps, steps.size, now.box, now.symbols);
        if (form.why != 0) return gone(NOT_POSSIBLE);
        if (what < ALL_SYMBOLS) return form.coefficients[what];
        if (what == ALL_SYMBOLS) return form.center;
        return what == ALL_SYMBOLS + 1 ? form.loose : form.radius;
    }

    public long trace(int expression, int step, int side) {
        Steps steps = find(expression);
        if (steps == null || step < 0 || step >= steps.size) return gone(NO_SUCH);
        if (!isSide(side)) return gone(BAD_VALUE);
        return endOf(machine.evaluate(steps, step + 1, now.box, now.symbols), side);
    }

    public int dominant(int expression) {
        Steps steps = find(expression);
        if (steps == null) return NO_SUCH;
        Form form = machine.evaluate(steps, steps.size, now.box, now.symbols);
        if (form.why != 0) return NOT_POSSIBLE;
        int chosen = NONE;
        long greatest = 0;
        for (int i = 0; i < ALL_INPUTS; i++) {
            long weight = form.weight(i);
            if (weight > greatest) {
                greatest = weight;
                chosen = i;
            }
        }
        return chosen;
    }

    public long gain(int expression) {
        Steps steps = find(expression);
        if (steps == null) return gone(NO_SUCH);
        Form form = machine.evaluate(steps, steps.size, now.box, now.symbols);
        if (form.why != 0) return gone(NOT_POSSIBLE);
        return form.hi - form.lo - 2 * form.radius;
    }

    public long sample(int expression, int position, int side) {
        Steps steps = find(expression);
        if (steps == null) return gone(NO_SUCH);
        if (position < 0 || position >= POSITIONS || !isSide(side)) return gone(BAD_VALUE);
        for (int i = 0; i < ALL_INPUTS; i++) {
            int value = now.box.place(i, (position >> (2 * i)) & 3);
            point.setEnds(i, value, value);
        }
        return endOf(machine.evaluate(steps, steps.size, point, now.symbols), side);
    }

    public int compare(int first, int second) {
        Steps left = find(first);
        Steps right = find(second);
        if (left == null || right == null) return NO_SUCH;
        Form difference = machine.difference(left, right, now.box, now.symbols);
        if (difference.why != 0) return NOT_POSSIBLE;
        if (difference.low > 0) return 1;
        if (difference.high < 0) return 2;
        return difference.low == 0 && difference.high == 0 ? 3 : 0;
    }

    public int prove(int expression, int limit, int most) {
        Steps steps = find(expression);
        if (steps == null) return NO_SUCH;
        if (limit < -FARTHEST_LIMIT || limit > FARTHEST_LIMIT) return BAD_VALUE;
        if (most < 1 || most > MOST_COUNTED) return BAD_VALUE;
        list.clear();
        list.append(now.box);
        // Boxes that are done go on being counted beyond most, so the list alone ends the search.
        for (int counted = 1; counted <= MOST_MADE && list.takeLast(proofBox); counted++) {
            proofCount = counted;
            Form form = machine.evaluate(steps, steps.size, proofBox, now.symbols);
            if (form.why == 0 && form.low > limit) continue;
            // The choice is made now, because the form is lost when the middle is evaluated.
            int input = proofBox.inputToSplit(form);
            if (isMiddleAtMost(steps, proofBox, limit)) return REFUTED;
            if (counted >= most || input < 0) return OPEN;
            proofBox.split(input, lowerPart, upperPart);
            list.append(upperPart);
            list.append(lowerPart);
        }
        return PROVED;
    }

    public long proof(int what) {
        if (what < 0 || what > 2 * ALL_INPUTS) return gone(BAD_VALUE);
        if (proofCount == 0) return gone(NONE);
        if (what == 0) return proofCount;
        return what <= ALL_INPUTS ? proofBox.lo[what - 1] : proofBox.hi[what - 1 - ALL_INPUTS];
    }

    public long tighten(int expression, int times, int side) {
        Steps steps = find(expression);
        if (steps == null) return gone(NO_SUCH);
        if (times < 0 || times > MOST_TIMES || !isSide(side)) return gone(BAD_VALUE);
        list.clear();
        list.append(now.box);
        rank(0, now.box, steps, side);
        for (int i = 0; i < times; i++) {
            int worst = list.worst();
            int input = list.splits[worst];
            if (input < 0) break;
            list.copyTo(worst, point);
            point.split(input, lowerPart, upperPart);
            list.replace(worst, lowerPart);
            rank(worst, lowerPart, steps, side);
            list.append(upperPart);
            rank(list.size - 1, upperPart, steps, side);
        }
        long rank = list.ranks[list.worst()];
        if (rank == BoxList.WILD) return gone(NOT_POSSIBLE);
        return side == 0 ? rank : -rank;
    }

    public int roots(int expression, int input, int n) {
        Steps steps = find(expression);
        if (steps == null || !isInput(input)) return NO_SUCH;
        if (n < 1 || n > MOST_PARTS) return BAD_VALUE;
        int lo = now.box.lo[input];
        int width = now.box.width(input);
        point.copyFrom(now.box);
        int set = 0;
        for (int k = 0; k < n; k++) {
            point.setEnds(input, lo + width * k / n, lo + width * (k + 1) / n);
            Form form = machine.evaluate(steps, steps.size, point, now.symbols);
            if (form.why != 0 || form.holdsZero()) set |= 1 << k;
        }
        return set;
    }

    public int count(int what) {
        switch (what) {
            case 0: return now.expressionSet();
            case 1: return padLength;
            case 2: return now.symbols;
            case 3: return now.box.wideInputs();
            default: return BAD_VALUE;
        }
    }

    public int save(int slot) {
        if (slot < 0 || slot >= ALL_SLOTS) return BAD_VALUE;
        slots[slot].copyFrom(now);
        saved[slot] = true;
        return now.expressionSet();
    }

    public int restore(int slot) {
        if (slot < 0 || slot >= ALL_SLOTS) return BAD_VALUE;
        if (!saved[slot]) return NOT_POSSIBLE;
        now.copyFrom(slots[slot]);
        return now.expressionSet();
    }

    /** The expression of this number, or null. */
    private Steps find(int expression) {
        if (expression < 0 || expression >= ALL_EXPRESSIONS) return null;
        Steps steps = now.expressions[expression];
        return steps.size > 0 ? steps : null;
    }

    private boolean isMiddleAtMost(Steps steps, Box box, int limit) {
        for (int i = 0; i < ALL_INPUTS; i++) {
            int middle = box.middle(i);
            point.setEnds(i, middle, middle);
        }
        Form form = machine.evaluate(steps, steps.size, point, now.symbols);
        return form.why == 0 && form.high <= limit;
    }

    /** Evaluates a box of the list, and notes how badly it bounds this side and where it is to be split. */
    private void rank(int index, Box box, Steps steps, int side) {
        Form form = machine.evaluate(steps, steps.size, box, now.symbols);
        long rank = BoxList.WILD;
        if (form.why == 0) rank = side == 0 ? form.low : -form.high;
        list.note(index, rank, box.inputToSplit(form));
    }

    private static long endOf(Form form, int side) {
        return form.why != 0 ? gone(NOT_POSSIBLE) : form.bestEnd(side);
    }

    private static long gone(int code) {
        return GONE + code;
    }

    private static boolean isInput(int input) {
        return input >= 0 && input < ALL_INPUTS;
    }

    private static boolean isSide(int side) {
        return side == 0 || side == 1;
    }

    /** The domains of the four inputs. */
    private static final class Box {
        final int[] lo = new int[ALL_INPUTS];
        final int[] hi = new int[ALL_INPUTS];

        void setEnds(int input, int low, int high) {
            lo[input] = low;
            hi[input] = high;
        }

        void copyFrom(Box other) {
            for (int i = 0; i < ALL_INPUTS; i++) setEnds(i, other.lo[i], other.hi[i]);
        }

        int width(int input) {
            return hi[input] - lo[input];
        }

        int middle(int input) {
            return (lo[input] + hi[input]) >> 1;
        }

        /** One of the four places of a domain that sample() knows. */
        int place(int input, int which) {
            switch (which) {
                case 0: return lo[input];
                case 1: return hi[input];
                case 2: return middle(input);
                default: return (3 * lo[input] + hi[input]) >> 2;
            }
        }

        int wideInputs() {
            int wide = 0;
            for (int i = 0; i < ALL_INPUTS; i++) {
                if (lo[i] < hi[i]) wide++;
            }
            return wide;
        }

        /** The input whose domain is split, if this form was made over this box; -1 if none can be. */
        int inputToSplit(Form form) {
            int chosen = -1;
            long greatest = 0;
            for (int i = 0; i < ALL_INPUTS; i++) {
                long weight = lo[i] < hi[i] ? form.weight(i) : 0;
                if (weight > greatest) {
                    greatest = weight;
                    chosen = i;
                }
            }
            if (chosen >= 0) return chosen;
            for (int i = 0; i < ALL_INPUTS; i++) {
                if (width(i) > greatest) {
                    greatest = width(i);
                    chosen = i;
                }
            }
            return chosen;
        }

        void split(int input, Box lower, Box upper) {
            int middle = middle(input);
            lower.copyFrom(this);
            upper.copyFrom(this);
            lower.hi[input] = middle;
            upper.lo[input] = width(input) == 1 ? hi[input] : middle;
        }
    }

    /** A list of boxes; a box can have a rank (the least is the worst) and the input to split it by. */
    private static final class BoxList {
        // Below all ranks of forms that are not wild.
        static final long WILD = GONE;

        private final int[] los = new int[MOST_BOXES * ALL_INPUTS];
        private final int[] his = new int[MOST_BOXES * ALL_INPUTS];
        final long[] ranks = new long[MOST_BOXES];
        final int[] splits = new int[MOST_BOXES];
        int size = 0;

        void clear() {
            size = 0;
        }

        void append(Box box) {
            if (size >= MOST_BOXES) return;
            size++;
            replace(size - 1, box);
        }

        void replace(int index, Box box) {
            if (index < 0 || index >= size) return;
            System.arraycopy(box.lo, 0, los, index * ALL_INPUTS, ALL_INPUTS);
            System.arraycopy(box.hi, 0, his, index * ALL_INPUTS, ALL_INPUTS);
        }

        void copyTo(int index, Box box) {
            if (index < 0 || index >= size) return;
            System.arraycopy(los, index * ALL_INPUTS, box.lo, 0, ALL_INPUTS);
            System.arraycopy(his, index * ALL_INPUTS, box.hi, 0, ALL_INPUTS);
        }

        /** Takes the last box out of the list; false if there is none. */
        boolean takeLast(Box box) {
            if (size == 0) return false;
            copyTo(size - 1, box);
            size--;
            return true;
        }

        void note(int index, long rank, int input) {
            if (index < 0 || index >= size) return;
            ranks[index] = rank;
            splits[index] = input;
        }

        /** The first one of the boxes of the least rank. */
        int worst() {
            int chosen = 0;
            for (int i = 1; i < size; i++) {
                if (ranks[i] < ranks[chosen]) chosen = i;
            }
            return chosen;
        }
    }

    /** The steps of an expression; without steps, there is no expression. */
    private static final class Steps {
        final int[] kinds = new int[MOST_STEPS];
        final int[] values = new int[MOST_STEPS];
        int size = 0;

        void copyFrom(Steps other) {
            size = other.size;
            System.arraycopy(other.kinds, 0, kinds, 0, MOST_STEPS);
            System.arraycopy(other.values, 0, values, 0, MOST_STEPS);
        }

        void append(int kind, int value) {
            if (size >= MOST_STEPS) return;
            kinds[size] = kind;
            values[size] = value;
            size++;
        }

        /** The value of the step that was appended last. */
        int lastValue() {
            return size > 0 ? values[size - 1] : 0;
        }

        void setLastValue(int value) {
            if (size > 0) values[size - 1] = value;
        }
    }

    /** What save() keeps. */
    private static final class State {
        final Box box = new Box();
        final Steps[] expressions = new Steps[ALL_EXPRESSIONS];
        int symbols = 4;

        State() {
            for (int i = 0; i < ALL_INPUTS; i++) box.setEnds(i, 0, 256);
            for (int i = 0; i < ALL_EXPRESSIONS; i++) expressions[i] = new Steps();
        }

        void copyFrom(State other) {
            box.copyFrom(other.box);
            symbols = other.symbols;
            for (int i = 0; i < ALL_EXPRESSIONS; i++) expressions[i].copyFrom(other.expressions[i]);
        }

        int expressionSet() {
            int set = 0;
            for (int i = 0; i < ALL_EXPRESSIONS; i++) {
                if (expressions[i].size > 0) set |= 1 << i;
            }
            return set;
        }
    }

    /** Reads a text one character at a time; operators and brackets wait until their operands are complete. */
    private static final class Reader {
        // What the text stands before or behind.
        static final int START = 0, OPERAND = 1, BRACKET = 2, WHOLE = 3, POINT = 4, FRACTION = 5, ATOM = 6, POWER = 7, FACTOR = 8;
        // What waits beside the operations: a bracket that makes no step, and a mark for one whose comma is due.
        static final int GROUP = 16, COMMA_DUE = 32;
        // How tightly an operator that waits binds; a bracket binds nothing.
        static final int NOTHING = 0, SUM = 1, PRODUCT = 2;

        final Steps made = new Steps();
        private final int[] waiting = new int[PAD_LENGTH];
        private int waits;
        private int at;
        private int opened;

        /** Makes the steps of the text, and returns its fault, or NONE. */
        int read(char[] text, int length) {
            made.size = 0;
            waits = 0;
            at = START;
            int end = Math.min(length, text.length);
            for (int i = 0; i < end; i++) {
                if (!take(text[i])) return i;
            }
            if (at == START || at == OPERAND || at == BRACKET || at == POINT || at == POWER) return length;
            complete(SUM);
            return waits > 0 ? length : NONE;
        }

        /** Takes the next character; false if no correct text has it here. */
        private boolean take(char c) {
            switch (at) {
                case START: return c == '-' ? hold(NEGATE, OPERAND) : takeOperand(c);
                case OPERAND: return takeOperand(c);
                case BRACKET: return c == '(' && hold(opened, START);
                case WHOLE: return isDigit(c) || c == '.' ? takeInWhole(c) : takeBehind(c);
                case POINT: return isDigit(c) && addDigit(c, 10, FRACTION);
                case FRACTION: return isDigit(c) ? addDigit(c, 1, ATOM) : takeBehind(c);
                case POWER: return takePower(c);
                default: return takeBehind(c);
            }
        }

        private boolean takeOperand(char c) {
            if (c >= 'a' && c <= 'd') {
                made.append(INPUT + (c - 'a'), 0);
                at = ATOM;
                return true;
            }
            if (isDigit(c)) {
                made.append(NUMBER, 0);
                return addDigit(c, 100, WHOLE);
            }
            switch (c) {
                case '(': return hold(GROUP, START);
                case 'A': return open(ABSOLUTE);
                case 'R': return open(ROOT);
                case 'L': return open(LEAST + COMMA_DUE);
                case 'G': return open(GREATEST + COMMA_DUE);
                default: return false;
            }
        }

        private boolean takeInWhole(char c) {
            if (c == '.') {
                at = POINT;
                return true;
            }
            int value = made.lastValue();
            // A zero stands alone, and a fourth digit has no place.
            if (value == 0 || value >= 10000) return false;
            made.setLastValue(value * 10);
            return addDigit(c, 100, WHOLE);
        }

        private boolean addDigit(char digit, int worth, int next) {
            made.setLastValue(made.lastValue() + (digit - '0') * worth);
            at = next;
            return true;
        }

        private boolean takePower(char c) {
            if (c < '2' || c > '4') return false;
            if (c == '3') made.append(COPY, 0);
            made.append(SQUARE, 0);
            if (c == '3') made.append(MULTIPLY, 0);
            if (c == '4') made.append(SQUARE, 0);
            at = FACTOR;
            return true;
        }

        /** Takes a character behind an operand. */
        private boolean takeBehind(char c) {
            switch (c) {
                case '^':
                    if (at == FACTOR) return false;
                    at = POWER;
                    return true;
                case '*': return operator(MULTIPLY, PRODUCT);
                case '/': return operator(DIVIDE, PRODUCT);
                case '+': return operator(ADD, SUM);
                case '-': return operator(SUBTRACT, SUM);
                case ')': return close();
                case ',': return passComma();
                default: return false;
            }
        }

        private boolean operator(int kind, int binding) {
            complete(binding);
            return hold(kind, OPERAND);
        }

        private boolean open(int what) {
            opened = what;
            at = BRACKET;
            return true;
        }

        private boolean close() {
            complete(SUM);
            if (waits == 0) return false;
            int what = waiting[waits - 1];
            if (what >= COMMA_DUE) return false;
            waits--;
            if (what != GROUP) made.append(what, 0);
            at = ATOM;
            return true;
        }

        private boolean passComma() {
            complete(SUM);
            if (waits == 0 || waiting[waits - 1] < COMMA_DUE) return false;
            waiting[waits - 1] -= COMMA_DUE;
            at = START;
            return true;
        }

        private boolean hold(int what, int next) {
            if (waits >= waiting.length) return false;
            waiting[waits] = what;
            waits++;
            at = next;
            return true;
        }

        /** Makes steps of the operators that wait last and bind at least so tightly. */
        private void complete(int binding) {
            while (waits > 0 && bindingOf(waiting[waits - 1]) >= binding) {
                waits--;
                made.append(waiting[waits], 0);
            }
        }

        private static int bindingOf(int what) {
            if (what == MULTIPLY || what == DIVIDE) return PRODUCT;
            return what == ADD || what == SUBTRACT || what == NEGATE ? SUM : NOTHING;
        }

        private static boolean isDigit(char c) {
            return c >= '0' && c <= '9';
        }
    }

    /** A form. If it is wild, only the reason counts. */
    private static final class Form {
        int why;
        long center;
        long loose;
        long lo;
        long hi;
        final long[] coefficients = new long[ALL_SYMBOLS];
        // Measured once: naming moves weight between coefficients and the loose part, and never changes these.
        long radius;
        long low;
        long high;

        void becomeWild(int reason) {
            why = reason;
        }

        /** Finds the radius and the best range; a form that is too large becomes wild. */
        void measure() {
            radius = loose;
            for (int s = 0; s < ALL_SYMBOLS; s++) radius += Math.abs(coefficients[s]);
            low = Math.max(center - radius, lo);
            high = Math.min(center + radius, hi);
            if (isLarge(center) || isLarge(radius) || isLarge(lo) || isLarge(hi)) becomeWild(LARGE);
        }

        long bestEnd(int side) {
            return side == 0 ? low : high;
        }

        boolean holdsZero() {
            return low <= 0 && high >= 0;
        }

        /** What a symbol weighs; a wild form counts as one without coefficients. */
        long weight(int symbol) {
            return why != 0 ? 0 : Math.abs(coefficients[symbol]);
        }

        void condense(int symbol) {
            loose += weight(symbol);
            coefficients[symbol] = 0;
        }

        void nameLoosePart(int symbol) {
            coefficients[symbol] = loose;
            loose = 0;
        }

        void setRange(long low, long high) {
            Arrays.fill(coefficients, 0L);
            center = (low + high) >> 1;
            loose = Math.max(high - center, center - low);
            lo = low;
            hi = high;
        }

        void setNumber(int hundredths) {
            Arrays.fill(coefficients, 0L);
            int value = 256 * hundredths;
            center = value / 100;
            loose = value % 100 == 0 ? 0 : 1;
            lo = center;
            hi = center + loose;
        }

        void setInput(int input, int low, int high) {
            setRange(low, high);
            nameLoosePart(input);
        }

        void copyFrom(Form x) {
            why = x.why;
            center = x.center;
            loose = x.loose;
            lo = x.lo;
            hi = x.hi;
            System.arraycopy(x.coefficients, 0, coefficients, 0, ALL_SYMBOLS);
        }

        void add(Form x, Form y) {
            center = x.center + y.center;
            for (int s = 0; s < ALL_SYMBOLS; s++) coefficients[s] = x.coefficients[s] + y.coefficients[s];
            loose = x.loose + y.loose;
            lo = x.lo + y.lo;
            hi = x.hi + y.hi;
        }

        void subtract(Form x, Form y) {
            center = x.center - y.center;
            for (int s = 0; s < ALL_SYMBOLS; s++) coefficients[s] = x.coefficients[s] - y.coefficients[s];
            loose = x.loose + y.loose;
            lo = x.lo - y.hi;
            hi = x.hi - y.lo;
        }

        void negate(Form x) {
            center = -x.center;
            for (int s = 0; s < ALL_SYMBOLS; s++) coefficients[s] = -x.coefficients[s];
            loose = x.loose;
            lo = -x.hi;
            hi = -x.lo;
        }

        void multiply(Form x, Form y) {
            long product = x.center * y.center;
            center = product >> 8;
            long rounded = roundings(product, 8);
            for (int s = 0; s < ALL_SYMBOLS; s++) {
                long sum = x.center * y.coefficients[s] + y.center * x.coefficients[s];
                coefficients[s] = sum >> 8;
                rounded += roundings(sum, 8);
            }
            long rest = Math.abs(x.center) * y.loose + Math.abs(y.center) * x.loose + x.radius * y.radius;
            loose = roundedUp(rest, 8) + rounded;
            long ll = x.lo * y.lo;
            long lh = x.lo * y.hi;
            long hl = x.hi * y.lo;
            long hh = x.hi * y.hi;
            lo = Math.min(Math.min(ll, lh), Math.min(hl, hh)) >> 8;
            hi = roundedUp(Math.max(Math.max(ll, lh), Math.max(hl, hh)), 8);
        }

        void square(Form x) {
            long sum = 2 * x.center * x.center + x.radius * x.radius;
            center = sum >> 9;
            long rounded = roundings(sum, 9);
            for (int s = 0; s < ALL_SYMBOLS; s++) {
                long product = 2 * x.center * x.coefficients[s];
                coefficients[s] = product >> 8;
                rounded += roundings(product, 8);
            }
            loose = roundedUp(4 * Math.abs(x.center) * x.loose + x.radius * x.radius, 9) + rounded;
            long one = x.lo * x.lo;
            long other = x.hi * x.hi;
            lo = x.lo <= 0 && x.hi >= 0 ? 0 : Math.min(one, other) >> 8;
            hi = roundedUp(Math.max(one, other), 8);
        }

        /** Becomes the reciprocal of y, in whose best range 0 must not be. */
        void invert(Form y) {
            if (y.low == 0 || y.high == 0) return;
            setRange(Math.floorDiv(65536L, y.high), -Math.floorDiv(-65536L, y.low));
        }

        void absolute(Form x) {
            if (x.low >= 0) copyFrom(x);
            else if (x.high <= 0) negate(x);
            else setRange(0, Math.max(-x.low, x.high));
        }

        void root(Form x) {
            if (x.high < 0) {
                becomeWild(NEGATIVE);
                return;
            }
            long square = 256 * x.high;
            long top = rootDown(square);
            if (top * top < square) top++;
            setRange(rootDown(256 * Math.max(x.low, 0)), top);
        }

        void least(Form x, Form y) {
            if (x.high <= y.low) copyFrom(x);
            else if (y.high <= x.low) copyFrom(y);
            else setRange(Math.min(x.low, y.low), Math.min(x.high, y.high));
        }

        void greatest(Form x, Form y) {
            if (x.low >= y.high) copyFrom(x);
            else if (y.low >= x.high) copyFrom(y);
            else setRange(Math.max(x.low, y.low), Math.max(x.high, y.high));
        }

        private static boolean isLarge(long value) {
            return value > LARGEST || value < -LARGEST;
        }

        private static int roundings(long value, int bits) {
            return (value & ((1L << bits) - 1)) == 0 ? 0 : 1;
        }

        private static long roundedUp(long value, int bits) {
            return (value + (1L << bits) - 1) >> bits;
        }

        /** The square root, rounded down, of a square that a form's best range can lead to (below 1 << 40). */
        private static long rootDown(long square) {
            long root = 0;
            for (int bit = 19; bit >= 0; bit--) {
                long tried = root + (1L << bit);
                if (tried * tried <= square) root = tried;
            }
            return root;
        }
    }

    /** Evaluates steps; the forms that were made and are not used yet wait in a stack. */
    private static final class Machine {
        private final Form[] forms = new Form[MOST_WAITING];
        // A result is made beside its operands and then changes places with one of them.
        private Form spare = new Form();
        private final Form reciprocal = new Form();
        private int depth;
        private int symbols;

        Machine() {
            for (int i = 0; i < MOST_WAITING; i++) forms[i] = new Form();
        }

        /** The form that the last of the first steps makes over a box; the next evaluation overwrites it. */
        Form evaluate(Steps steps, int size, Box box, int symbols) {
            depth = 0;
            this.symbols = symbols;
            for (int i = 0; i < size && i < steps.size; i++) perform(steps.kinds[i], steps.values[i], box);
            return top();
        }

        Form difference(Steps left, Steps right, Box box, int symbols) {
            evaluate(left, left.size, box, symbols);
            for (int i = 0; i < right.size; i++) perform(right.kinds[i], right.values[i], box);
            perform(SUBTRACT, 0, box);
            return top();
        }

        private Form top() {
            return depth > 0 ? forms[depth - 1] : spare;
        }

        private void perform(int kind, int value, Box box) {
            Form made = spare;
            made.why = 0;
            int used = operands(kind);
            if (depth < used || depth - used >= MOST_WAITING) return;
            if (kind == NUMBER) made.setNumber(value);
            else if (kind < ADD) made.setInput(kind - INPUT, box.lo[kind - INPUT], box.hi[kind - INPUT]);
            else if (kind == COPY) made.copyFrom(top());
            else if (used == 1) change(kind, forms[depth - 1], made);
            else combine(kind, forms[depth - 2], forms[depth - 1], made);
            depth = depth - used + 1;
            spare = forms[depth - 1];
            forms[depth - 1] = made;
            if (made.why != 0) return;
            made.measure();
            if (kind >= MULTIPLY && made.why == 0 && made.loose > 0 && symbols > 0) nameLoosePart(made);
        }

        /** How many forms a step uses up. */
        private static int operands(int kind) {
            switch (kind) {
                case NEGATE:
                case SQUARE:
                case ABSOLUTE:
                case ROOT:
                    return 1;
                case COPY:
                    // Its operand waits on, for the MULTIPLY by the square of the copy.
                    return 0;
                default:
                    return kind < ADD ? 0 : 2;
            }
        }

        private static void change(int kind, Form x, Form made) {
            if (x.why != 0) {
                made.becomeWild(x.why);
                return;
            }
            switch (kind) {
                case NEGATE: made.negate(x); break;
                case SQUARE: made.square(x); break;
                case ABSOLUTE: made.absolute(x); break;
                default: made.root(x);
            }
        }

        private void combine(int kind, Form x, Form y, Form made) {
            // The steps of x come before those of y, so x became wild first.
            if (x.why != 0 || y.why != 0) {
                made.becomeWild(x.why != 0 ? x.why : y.why);
                return;
            }
            switch (kind) {
                case ADD: made.add(x, y); break;
                case SUBTRACT: made.subtract(x, y); break;
                case MULTIPLY: made.multiply(x, y); break;
                case DIVIDE:
                    if (y.holdsZero()) {
                        made.becomeWild(ZERO);
                    } else {
                        reciprocal.invert(y);
                        reciprocal.measure();
                        made.multiply(x, reciprocal);
                    }
                    break;
                case LEAST: made.least(x, y); break;
                default: made.greatest(x, y);
            }
        }

        /** Makes the loose part of a result the coefficient of the symbol that weighs least; a free one weighs nothing. */
        private void nameLoosePart(Form made) {
            int chosen = FIRST_FREE_SYMBOL;
            long least = weightOf(chosen);
            for (int s = FIRST_FREE_SYMBOL + 1; s < FIRST_FREE_SYMBOL + symbols && s < ALL_SYMBOLS; s++) {
                long weight = weightOf(s);
                if (weight < least) {
                    least = weight;
                    chosen = s;
                }
            }
            for (int i = 0; i < depth; i++) forms[i].condense(chosen);
            made.nameLoosePart(chosen);
        }

        private long weightOf(int symbol) {
            long weight = 0;
            for (int i = 0; i < depth; i++) weight += forms[i].weight(symbol);
            return weight;
        }
    }
}
