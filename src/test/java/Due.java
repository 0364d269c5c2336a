/** Counts the answers that are not as due; a test ends with exit code 1 if there was one. */
final class Due {
    private int wrong;
    private int asked;
    private int sentences;
    private String sentence = "";

    /** A sentence of the document and the test that is its own: what is wrong there is told with it. */
    void sentence(String words, Runnable test) {
        int before = asked;
        sentence = "[" + words + "] ";
        test.run();
        is("something was asked", asked > before, true);
        sentence = "";
        sentences++;
    }

    void is(String call, long got, long want) {
        asked++;
        if (got != want) {
            wrong++;
            System.out.println(sentence + call + " answered " + got + ", due is " + want);
        }
    }

    void is(String call, boolean got, boolean want) {
        is(call, got ? 1 : 0, want ? 1 : 0);
    }

    void end(String test) {
        String of = sentences == 0 ? "" : sentences + " sentences, ";
        System.out.println(test + ": " + of + asked + " answers, " + wrong + " not as due");
        if (wrong != 0 || asked == 0) {
            System.exit(1);
        }
    }
}
