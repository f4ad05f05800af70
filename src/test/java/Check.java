/** Counts the answers of one test that are not as due, and ends the test with exit code 1 if there was one. */
final class Check {
    private final String test;
    private String sentence = "";
    private int asked;
    private int wrong;

    Check(String test) {
        this.test = test;
    }

    /** The sentence of the document that the answers behind this call are asked for. */
    void says(String newSentence) {
        sentence = " \"" + newSentence + "\"";
    }

    void due(String call, long got, long want) {
        asked++;
        if (got != want) {
            wrong++;
            System.out.println(test + sentence + ": " + call + " answered " + got + ", due is " + want);
        }
    }

    void due(String call, boolean got, boolean want) {
        due(call, got ? 1 : 0, want ? 1 : 0);
    }

    void dueText(String call, String got, String want) {
        asked++;
        if (!got.equals(want)) {
            wrong++;
            System.out.println(test + sentence + ": " + call + " gave " + Texts.visible(got) + ", due is "
                + Texts.visible(want));
        }
    }

    /** Reads a text on a shelf and looks at the answer and at the place. */
    void read(String what, RecordShelf shelf, String text, int answer, int place) {
        Texts.set(shelf, text);
        due("read() of " + what, shelf.read(), answer);
        due("place() after " + what, shelf.place(), place);
    }

    /** Reads a text on a new shelf and looks for a fault there. */
    void fault(String what, String text, int fault, int place) {
        RecordShelf shelf = new RecordShelf();
        read(what, shelf, text, fault, place);
        due("many(0, -1) after " + what, shelf.many(0, -1), RecordShelf.NONE);
        dueText("the text after read() of " + what, Texts.get(shelf), text);
    }

    void end() {
        System.out.println(test + ": " + asked + " answers, " + wrong + " wrong");
        if (wrong != 0 || asked == 0) {
            System.exit(1);
        }
    }
}
