import java.util.HashSet;
import java.util.Set;

/** Counts answers that are not as due, prints them, and ends the test with exit code 1 if there were any. */
final class Check {
    private int looked = 0;
    private int wrong = 0;
    private final Set<String> sentences = new HashSet<>();
    private String sentence = "";

    /** What is looked at from now on tests this sentence of the document. */
    void sentence(String words) {
        sentences.add(words);
        sentence = "'" + words + "': ";
    }

    void due(String call, long got, long want) {
        looked++;
        if (got != want) {
            wrong++;
            System.out.println(sentence + call + " answered " + got + ", due is " + want);
        }
    }

    void holds(String what, boolean isTrue) {
        looked++;
        if (!isTrue) {
            wrong++;
            System.out.println(sentence + "not so: " + what);
        }
    }

    boolean isClean() {
        return wrong == 0;
    }

    void end() {
        String of = sentences.isEmpty() ? "" : " of " + sentences.size() + " sentences";
        System.out.println(looked + " answers" + of + " looked at, " + wrong + " not as due");
        if (wrong != 0) {
            System.exit(1);
        }
    }
}
