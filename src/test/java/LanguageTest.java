import java.nio.file.Files;
import java.nio.file.Path;
import java.util.List;
import java.util.regex.Matcher;
import java.util.regex.Pattern;

/** The program's source keeps to those rules of LANGUAGE.md that can be seen from its words. */
public final class LanguageTest {
    private static final int LONGEST_METHOD = 60;
    private static final List<String> NO_WORDS = List.of("import", "package", "try", "catch", "finally",
        "synchronized", "assert", "System\\.(?!arraycopy)", "Random", "Thread", "double", "float", "equals",
        "hashCode", "\\w+Exact", "->", "::", "String\\.", "Object", "protected", "instanceof", "var", "yield");
    private static final List<String> LIBRARY_CALLS = List.of("Math.max", "Math.min", "Long.bitCount");

    private LanguageTest() {
    }

    public static void main(String[] args) throws Exception {
        String source = Files.readString(Path.of("src/main/java/Carryfree.java"));
        Check.same("signs beyond 127", source.chars().allMatch(c -> c < 128), true);
        String code = source.replaceAll("(?s)/\\*.*?\\*/", "").replaceAll("//[^\n]*", "")
            .replaceAll("\"[^\"\n]*\"", "\"\"");
        for (String word : NO_WORDS) {
            boolean isName = Character.isLetter(word.charAt(0)) || word.startsWith("\\w");
            Pattern pattern = Pattern.compile(isName ? "\\b" + word + (word.contains(".") ? "" : "\\b") : word);
            Check.same("has " + word, pattern.matcher(code).find(), false);
        }
        Check.same("texts joined by +", Pattern.compile("\"\"\\s*\\+|\\+\\s*\"\"").matcher(code).find(), false);
        Matcher calls = Pattern.compile("\\b(Math|Long|Integer|Arrays)\\.\\w+").matcher(code);
        while (calls.find()) {
            Check.same(calls.group() + " is one of the few calls", LIBRARY_CALLS.contains(calls.group()), true);
        }
        Matcher statics = Pattern.compile("(?m)^\\s*(private )?static (?!final)[^;({]*;").matcher(code);
        Check.same("static fields that are not final", statics.find(), false);
        methodsAreShort(code);
        Check.finish("LanguageTest");
    }

    /** A method's first line stands 4 or 8 signs from the left, and so does its last one, a brace. */
    private static void methodsAreShort(String code) {
        String[] lines = code.split("\n");
        for (String margin : List.of("    ", "        ")) {
            int begun = -1;
            int ended = 0;
            for (int k = 0; k < lines.length; k++) {
                if (lines[k].matches(margin + "\\w[\\w\\[\\] ]*(\\(.*|\\{)")) {
                    begun = lines[k].contains("class ") ? -1 : k;
                }
                if (begun >= 0 && lines[k].equals(margin + "}")) {
                    Check.same("method of line " + begun + " is short", k - begun < LONGEST_METHOD, true);
                    begun = -1;
                    ended++;
                }
            }
            Check.same("methods were found at " + margin.length(), ended > 20, true);
        }
    }
}
