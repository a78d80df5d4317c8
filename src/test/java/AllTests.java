/** Runs every test of the project, and ends with exit code 1 if an answer is not the one that is due. */
public final class AllTests {
    private AllTests() {
    }

    /** The first argument is the path of the class's source. */
    public static void main(String[] arguments) throws Exception {
        if (arguments.length != 1) {
            System.out.println("AllTests: the path of AffineRanges.java is wanted");
            System.exit(1);
        }
        String[] groups = {"Examples", "Sentences", "Inputs", "Texts", "Evaluation", "Splitting", "Saving", "Face", "Language", "CallGraph", "Room", "Readme", "Model"};
        int wrong = 0;
        for (String group : groups) {
            Check check = new Check(group);
            run(group, check, arguments[0]);
            check.report();
            wrong += check.wrong();
        }
        if (wrong > 0) System.exit(1);
    }

    private static void run(String group, Check check, String source) throws Exception {
        switch (group) {
            case "Examples": ExamplesTest.run(check); break;
            case "Sentences": SentencesTest.run(check); break;
            case "Inputs": InputsTest.run(check); break;
            case "Texts": TextsTest.run(check); break;
            case "Evaluation": EvaluationTest.run(check); break;
            case "Splitting": SplittingTest.run(check); break;
            case "Saving": SavingTest.run(check); break;
            case "Face": FaceTest.run(check); break;
            case "Language": LanguageTest.run(check, source); break;
            case "CallGraph": CallGraphTest.run(check, source); break;
            case "Room": RoomTest.run(check); break;
            case "Readme": ReadmeTest.run(check); break;
            default: ModelTest.run(check); break;
        }
    }
}
