/** Counts the answers that are not as due, and prints them with the sentence that they are due by. */
final class Check {
    private final String name;
    private String sentence = "";
    private int sentences = 0;
    private int askedOfSentence = 1;
    private int asked = 0;
    private int wrong = 0;

    Check(String name) {
        this.name = name;
    }

    /** The answers from here on are due by this sentence of the document. */
    void says(String text) {
        needAnswers();
        sentence = ", by '" + text + "'";
        sentences++;
        askedOfSentence = 0;
    }

    private void needAnswers() {
        if (askedOfSentence == 0) {
            note("no answer was asked for" + sentence);
        }
    }

    private void note(String text) {
        wrong++;
        if (wrong <= 40) {
            System.out.println(name + ": " + text);
        }
    }

    void due(String call, long got, long want) {
        asked++;
        askedOfSentence++;
        if (got != want) {
            note(call + " answered " + got + ", due is " + want + sentence);
        }
    }

    void holds(String what, boolean so) {
        due(what, so ? 1 : 0, 1);
    }

    void meanThrows(String when, NullKinds x) {
        String text = null;
        try {
            x.mean();
        } catch (ArithmeticException e) {
            text = String.valueOf(e.getMessage());
        }
        holds("mean() throws " + when, text != null);
        holds("it is not the machine that throws " + when, !"/ by zero".equals(text));
    }

    int wrong() {
        return wrong;
    }

    void end() {
        needAnswers();
        System.out.println(name + ": " + asked + " answers, " + wrong + " not as due"
                + (sentences > 0 ? ", of " + sentences + " sentences" : ""));
        if (wrong != 0) {
            System.exit(1);
        }
    }
}
