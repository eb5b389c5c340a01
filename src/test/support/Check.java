/** Says of each wrong answer of which sentence of the document it is, and counts them. */
final class Check {
    private int wrong = 0;
    private int tests = 0;
    private String where = "";

    /** What follows is of this sentence (or part of one), which stands in that section of the document. */
    void sentence(String section, String words) {
        tests++;
        where = section + ": \"" + words + "\"";
    }

    void due(String call, long got, long want) {
        if (got != want) {
            wrong++;
            System.out.println(where + "\n    " + call + " answered " + got + ", due is " + want);
        }
    }

    void due(String call, boolean got, boolean want) {
        due(call, got ? 1 : 0, want ? 1 : 0);
    }

    void end() {
        System.out.println(wrong == 0
                ? "all answers of " + tests + " tests are as due"
                : wrong + " answers are not as due");
        if (wrong != 0) {
            System.exit(1);
        }
    }
}
