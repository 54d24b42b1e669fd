/** Counts the answers that are not the ones due, and prints them. */
final class Check {
    interface Call {
        long answer();
    }

    interface Deed {
        void run();
    }

    private int checks;
    private int wrong;
    private int sentences;
    private String sentence = "";
    private int checksBefore;

    /** What is looked at from now on is what this sentence of the document says. */
    void sentence(String words) {
        endSentence();
        sentences++;
        sentence = words;
        checksBefore = checks;
    }

    void due(String what, long want, long got) {
        checks++;
        if (got != want) {
            fail(what + " answered " + got + ", due is " + want);
        }
    }

    void due(String what, String want, String got) {
        checks++;
        if (!want.equals(got)) {
            fail(what + " answered " + got + ", due is " + want);
        }
    }

    void dueThrow(String what, Class<? extends RuntimeException> want, Deed deed) {
        due(what, want.getSimpleName(), outcome(deed));
    }

    /** The number that a call answers, or the name of what it throws. */
    static String outcome(Call call) {
        try {
            return Long.toString(call.answer());
        } catch (RuntimeException e) {
            return e.getClass().getSimpleName();
        }
    }

    /** As of a call that answers 0. */
    static String outcome(Deed deed) {
        return outcome(() -> {
            deed.run();
            return 0;
        });
    }

    boolean allRight() {
        return wrong == 0;
    }

    void end(String name) {
        endSentence();
        String of = sentences == 0 ? "" : " for " + sentences + " sentences";
        System.out.println(name + ": " + checks + " answers looked at" + of + ", " + wrong + " wrong");
        System.exit(wrong == 0 ? 0 : 1);
    }

    private void endSentence() {
        if (sentences > 0 && checks == checksBefore) {
            fail("nothing was looked at");
        }
    }

    private void fail(String text) {
        wrong++;
        if (wrong <= 50) {
            System.out.println(sentence.isEmpty() ? text : "'" + sentence + "': " + text);
        }
    }
}
