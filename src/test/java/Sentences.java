import java.util.ArrayList;
import java.util.List;

/**
 * The sentences of one part of the document. Each test says word by word which one it is of, and
 * done() finds those that no test is of.
 */
final class Sentences {
    /** Parameter lines that tell no more than what kind of thing it is. */
    private static final String PLAIN = "- `\\w+`: (a|the|its) (CELL|CELL INTO|PLACE|DEGREE|RADIX|RANK|number)";

    private static final List<String> DONE = new ArrayList<>();

    private final String part;
    private final String all;
    private String left;

    private Sentences(String part, List<String> lines) {
        this.part = part;
        this.all = String.join("\n", lines);
        this.left = all;
    }

    static Sentences ofPromise(int number) {
        String heading = "## Promise " + number + ": ";
        List<String> kept = new ArrayList<>();
        boolean isIn = false;
        for (String line : Lines.ofDocument()) {
            if (line.startsWith("## ")) {
                isIn = line.startsWith(heading);
            } else if (isIn && !line.startsWith("`") && !line.startsWith("====") && !line.matches(PLAIN)) {
                kept.add(line);
            }
        }
        return new Sentences("promise " + number, kept);
    }

    /** What stands ahead of the first promise, without headings and the face. */
    static Sentences ofDescription() {
        List<String> kept = new ArrayList<>();
        boolean isFace = false;
        for (String line : Lines.ofDocument()) {
            if (line.startsWith("## Promise 1:")) {
                break;
            }
            if (line.startsWith("```")) {
                isFace = !isFace;
            } else if (!isFace && !line.startsWith("#") && !line.startsWith("==")) {
                kept.add(line);
            }
        }
        return new Sentences("the description", kept);
    }

    Sentences says(String sentence, Runnable test) {
        String what = part + ", \"" + sentence + "\"";
        Check.same(what + " stands in the document", all.contains(sentence), true);
        int before = Check.count();
        test.run();
        Check.same(what + " has checks", Check.count() > before, true);
        return without(sentence);
    }

    /** For a sentence that tells nothing that a call could break. */
    Sentences without(String sentence) {
        int at = left.indexOf(sentence);
        if (at >= 0) {
            left = left.substring(0, at) + left.substring(at + sentence.length());
        }
        return this;
    }

    void done() {
        Check.same("what of " + part + " no test is of", left.replaceAll("[\\s.;]+", " ").trim(), "");
        DONE.add(part);
    }

    /** None of these promises is left out. */
    static void doneFrom(int first, int last) {
        for (int number = first; number <= last; number++) {
            Check.same("promise " + number + " has tests", DONE.contains("promise " + number), true);
        }
    }
}
