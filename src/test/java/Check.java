/** Counts the answers of one test that are not the ones that are due. */
final class Check {
    private String sentence = "";
    private int asked = 0;
    private int wrong = 0;

    /** The words of the document that the answers from here on are held against. */
    void sentence(String words) {
        sentence = words + " | ";
    }

    void due(String what, long got, long want) {
        asked++;
        if (got != want) {
            wrong++;
            System.out.println(sentence + what + " answered " + got + ", due is " + want);
        }
    }

    /** Ends the test: exit code 1 if an answer was wrong. */
    void end(String test) {
        System.out.println(test + ": " + asked + " answers, " + wrong + " wrong");
        if (wrong != 0 || asked == 0) {
            System.exit(1);
        }
    }
}
