import java.util.concurrent.Callable;

/** Counts answers that are due and answers that are not, for the tests of this folder. */
final class Check {
    private int passed = 0;
    private int failed = 0;
    private int sentences = 0;
    private int before = 0;
    private String sentence = "";

    /** What is checked from here on tests this sentence of the document. */
    void about(String next) {
        endSentence();
        sentences++;
        sentence = next;
        before = passed + failed;
    }

    private void endSentence() {
        if (sentences > 0 && passed + failed == before) {
            failed++;
            System.out.println("nothing is checked of: " + sentence);
        }
    }

    void due(String what, long got, long want) {
        tell(what, String.valueOf(got), String.valueOf(want));
    }

    void due(String what, Callable<? extends Number> call, long want) {
        tell(what, answer(call), String.valueOf(want));
    }

    void throwing(String what, Callable<? extends Number> call, Class<? extends RuntimeException> due) {
        tell(what, answer(call), due.getSimpleName());
    }

    void tell(String what, String got, String want) {
        if (got.equals(want)) {
            passed++;
        } else {
            failed++;
            String of = sentence.isEmpty() ? "" : sentence + ": ";
            System.out.println(of + what + " answered " + got + ", due is " + want);
        }
    }

    /** What a call answers: its number, or the name of the exception that it throws. */
    static String answer(Callable<? extends Number> call) {
        try {
            return String.valueOf(call.call().longValue());
        } catch (Exception e) {
            return e.getClass().getSimpleName();
        }
    }

    void end(String name) {
        endSentence();
        System.out.println(name + (sentences > 0 ? ", of " + sentences + " sentences:" : ":"));
        System.out.println(passed + " passed, " + failed + " failed");
        if (failed > 0) {
            System.exit(1);
        }
    }
}
