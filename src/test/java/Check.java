import java.util.HashSet;
import java.util.Set;

/** Counts the answers that are not due and prints them, with the sentence that they break. */
final class Check {
    private int wrong = 0;
    private int all = 0;
    private final Set<String> sentences = new HashSet<>();
    private String sentence = "";

    /** A call that may throw. */
    interface Call {
        long run();
    }

    /** The sentence of the document that the answers from here on are about. */
    void sentence(String words) {
        sentence = words;
        sentences.add(words);
    }

    void due(String call, long got, long want) {
        all++;
        if (got != want) {
            tell(call + " answered " + got + ", due is " + want);
        }
    }

    void dueText(String call, String got, String want) {
        all++;
        if (!got.equals(want)) {
            tell(call + " answered " + got + ", due is " + want);
        }
    }

    void dueThrow(String call, Class<? extends RuntimeException> want, Call run) {
        all++;
        String got = thrownBy(run);
        if (!got.equals(want.getName())) {
            tell(call + " gave " + got + ", due is " + want.getName());
        }
    }

    /** The name of the exception that the call throws. */
    static String thrownBy(Call run) {
        try {
            run.run();
        } catch (RuntimeException e) {
            return e.getClass().getName();
        }
        return "no exception";
    }

    private void tell(String what) {
        wrong++;
        System.out.println(sentence.isEmpty() ? what : "[" + sentence + "] " + what);
    }

    boolean failed() {
        return wrong > 0;
    }

    void end(String name) {
        String of = sentences.isEmpty() ? "" : ", " + sentences.size() + " sentences";
        System.out.println(name + ": " + (all - wrong) + " of " + all + " answers as due" + of);
        if (failed()) {
            System.exit(1);
        }
    }
}
