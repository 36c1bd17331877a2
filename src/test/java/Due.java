/** Counts the answers that are not as due, and ends a test with exit code 1 if there was one. */
final class Due {
    private final String test;
    private String sentence = "";
    private int sentences = 0;
    private int calls = 0;
    private int wrong = 0;

    Due(String test) {
        this.test = test;
    }

    /** The answers from here on are held against this sentence of the document. */
    void sentence(String words) {
        sentence = " \"" + words + "\":";
        sentences++;
    }

    void is(String call, long got, long want) {
        calls++;
        if (got != want) {
            wrong++;
            System.out.println(test + ":" + sentence + " " + call + " answered " + got + ", due is " + want);
        }
    }

    void is(String call, boolean got, boolean want) {
        is(call, got ? 1 : 0, want ? 1 : 0);
    }

    /** What the object tells of itself is still what it told before. */
    void unchanged(String before, EscrowedVersions x) {
        String now = Prepared.state(x);
        calls++;
        if (!before.equals(now)) {
            wrong++;
            System.out.println(test + ":" + sentence + " a refused call changed " + before + " to " + now);
        }
    }

    void end() {
        String told = sentences == 0 ? "" : sentences + (sentences == 1 ? " sentence, " : " sentences, ");
        System.out.println(test + ": " + told + calls + " answers, " + wrong + " not as due");
        if (wrong != 0) {
            System.exit(1);
        }
    }
}
