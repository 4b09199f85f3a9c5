/** Counts and prints the answers that are not the ones due; ends a test's main method. */
final class Due {
    private int asked, wrong, askedBefore;
    private String sentence = "";

    /** What follows holds the class to these words of the document; words that nothing follows are a fault of the test. */
    void sentence(String words) {
        endSentence();
        sentence = "'" + words + "': ";
        askedBefore = asked;
    }

    void is(String call, long got, long want) {
        asked++;
        if (got != want) {
            wrong++;
            System.out.println(sentence + call + " answered " + got + ", due is " + want);
        }
    }

    void holds(String what, boolean is) {
        asked++;
        if (!is) {
            wrong++;
            System.out.println(sentence + what + " does not hold");
        }
    }

    void end() {
        endSentence();
        System.out.println(asked + " answers, " + wrong + " not as due");
        if (wrong != 0 || asked == 0) {
            System.exit(1);
        }
    }

    private void endSentence() {
        if (!sentence.isEmpty() && asked == askedBefore) {
            wrong++;
            System.out.println(sentence + "nothing is asked");
        }
    }
}
