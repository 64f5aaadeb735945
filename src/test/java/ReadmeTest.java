import java.io.File;
import java.util.ArrayList;
import java.util.List;
import java.util.regex.Matcher;
import java.util.regex.Pattern;

/** README.md says how to use the class: its example answers as it says, and it leaves out no method and no test. */
public final class ReadmeTest {
    private static final Pattern CALL = Pattern.compile("x\\.(\\w+)\\((.*)\\); +// (\"[^\"]*\"|-?\\w+): .*");
    private static final String MAKING = "Carryfree x = new Carryfree();";

    private ReadmeTest() {
    }

    public static void main(String[] args) {
        List<String> page = Lines.of("README.md");
        example(page);
        methods(String.join("\n", page));
        tests(String.join("\n", page));
        Check.finish("ReadmeTest");
    }

    private static void example(List<String> page) {
        int begin = page.indexOf("```java") + 1;
        Check.same("the example begins with", page.get(begin), MAKING);
        Carryfree x = new Carryfree();
        int called = 0;
        for (int k = begin + 1; !page.get(k).equals("```"); k++) {
            Matcher told = CALL.matcher(page.get(k));
            boolean isCall = told.matches();
            Check.same(page.get(k) + " is a call with its answer", isCall, true);
            if (isCall) {
                Check.same(page.get(k), answer(x, told.group(1), told.group(2)), told.group(3));
                called++;
            }
        }
        Check.same("the example has calls", called > 0, true);
    }

    private static String answer(Carryfree x, String name, String told) {
        for (Face face : Face.all()) {
            if (face.name.equals(name)) {
                Object answer = face.on(x, numbers(told));
                return answer instanceof String ? "\"" + answer + "\"" : answer.toString();
            }
        }
        return "no such method";
    }

    private static Object[] numbers(String told) {
        List<Object> all = new ArrayList<>();
        for (String one : told.isEmpty() ? new String[0] : told.split(", ")) {
            boolean isWord = one.equals("true") || one.equals("false");
            all.add(isWord ? (Object) Boolean.valueOf(one) : (Object) Integer.valueOf(one));
        }
        return all.toArray();
    }

    private static void methods(String page) {
        String table = between(page, "| calls |", "## How to run its tests");
        for (Face face : Face.all()) {
            Check.same("the table of calls has " + face.name, table.contains("`" + face.name + "`"), true);
        }
    }

    private static String between(String page, String begin, String end) {
        int from = page.indexOf(begin);
        int to = page.indexOf(end);
        Check.same("\"" + begin + "\" stands ahead of \"" + end + "\"", from >= 0 && from < to, true);
        return from >= 0 && from < to ? page.substring(from, to) : "";
    }

    private static void tests(String page) {
        String table = between(page, "| test |", "The three `EdgesOf` tests");
        int found = 0;
        for (String file : new File("src/test/java").list()) {
            if (file.endsWith("Test.java")) {
                String name = file.substring(0, file.length() - ".java".length());
                Check.same("the table of tests has " + name, table.contains("| `" + name + "` |"), true);
                found++;
            }
        }
        Check.same("the table has no other test", table.split("\n\\| `").length - 1, found);
        Check.same("it says how to run them", page.contains("\nbash .ci/run\n"), true);
    }
}
