import java.util.ArrayList;
import java.util.List;

/** Two objects that are used alike, but that only one of them gets a call: does this call change anything? */
final class Twins {
    interface Call {
        long on(AffineRanges x);
    }

    private Twins() {
    }

    /** The call is due to answer this, and to change nothing. */
    static void changesNothing(Check check, String name, long want, Call call) {
        AffineRanges x = used();
        check.due(name, call.on(x), want);
        check.that(name + " changed something", seen(x).equals(seen(used())));
    }

    /** An object in which everything that a call could change differs from what it is in a new one. */
    static AffineRanges used() {
        AffineRanges x = Calls.over(new AffineRanges(), -300, 500, 3, 8, 0, 0, -7, -6);
        Calls.load(x, 0, "a^3-b*0.33");
        Calls.load(x, 2, "1/c");
        x.setSymbols(6);
        x.save(1);
        x.setSymbols(3);
        x.setDomain(1, 2, 90);
        Calls.load(x, 3, "R(b)-d");
        x.prove(0, -2000, 5);
        Calls.say(x, "a+2.5");
        return x;
    }

    /** All that can be seen of an object; what is on its pad and in its slots is brought out for it. */
    private static List<Long> seen(AffineRanges x) {
        List<Long> all = new ArrayList<>();
        addState(all, x);
        all.add((long) x.load(1));
        addSteps(all, x, 1);
        all.add((long) x.restore(0));
        all.add((long) x.restore(1));
        addState(all, x);
        return all;
    }

    private static void addState(List<Long> all, AffineRanges x) {
        for (int i = 0; i < 8; i++) all.add((long) x.domain(i / 2, i % 2));
        for (int i = 0; i < 4; i++) all.add((long) x.count(i));
        for (int i = 0; i < 9; i++) all.add(x.proof(i));
        all.add((long) x.fault());
        for (int e = 0; e < 4; e++) addSteps(all, x, e);
        for (int e = 0; e < 4; e += 2) {
            for (int i = 0; i < 15; i++) all.add(x.part(e, i));
        }
    }

    private static void addSteps(List<Long> all, AffineRanges x, int e) {
        int steps = x.step(e, -1, 0);
        all.add((long) steps);
        for (int i = 0; i < steps; i++) {
            all.add((long) x.step(e, i, 0));
            all.add((long) x.step(e, i, 1));
        }
        all.add((long) x.reason(e));
        all.add(x.bound(e, 1, 0));
        all.add(x.bound(e, 1, 1));
    }
}
