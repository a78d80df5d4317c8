/** Counts and prints the answers that are not the ones that are due. */
final class Check {
    private final String group;
    private int right = 0;
    private int wrong = 0;

    Check(String group) {
        this.group = group;
    }

    void due(String call, long got, long want) {
        that(call + " answered " + got + ", due is " + want, got == want);
    }

    void that(String what, boolean holds) {
        if (holds) {
            right++;
        } else {
            wrong++;
            System.out.println(group + ": " + what);
        }
    }

    int right() {
        return right;
    }

    int wrong() {
        return wrong;
    }

    void report() {
        System.out.println(group + ": " + right + " right, " + wrong + " wrong");
    }
}
