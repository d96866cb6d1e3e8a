/** Counts answers and tells the wrong ones. */
final class Checks {
    private int right;
    private int wrong;
    private int sentences;
    private String words = "";
    private int checkedAhead;

    /** From here on it is this sentence of the document that is tested; one without any check is wrong. */
    void sentence(String next) {
        closeSentence();
        sentences++;
        words = next;
        checkedAhead = right + wrong;
    }

    private void closeSentence() {
        if (!words.isEmpty() && right + wrong == checkedAhead) {
            wrong++;
            System.out.println("[" + words + "] is not tested");
        }
        words = "";
    }

    void due(String what, long got, long want) {
        if (got == want) {
            right++;
            return;
        }
        wrong++;
        String where = words.isEmpty() ? "" : "[" + words + "] ";
        System.out.println(where + what + " answered " + got + ", due is " + want);
    }

    void holds(String what, boolean so) {
        due(what, so ? 1 : 0, 1);
    }

    int wrongSoFar() {
        return wrong;
    }

    void end(String name) {
        closeSentence();
        String told = sentences == 0 ? "" : " (" + sentences + " sentences)";
        System.out.println(name + ": " + right + " passed, " + wrong + " failed" + told);
        if (wrong != 0 || right == 0) {
            System.exit(1);
        }
    }
}
