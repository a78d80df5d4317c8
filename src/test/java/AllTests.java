/** Runs every test of the project, and ends with exit code 1 if an answer is not the one that is due. */
public final class AllTests {
    public static void main(String[] arguments) {
        int wrong = 0;
        Check check = new Check("ModelTest");
        ModelTest.run(check);
        check.report();
        wrong += check.wrong();
        if (wrong > 0) System.exit(1);
    }
}
