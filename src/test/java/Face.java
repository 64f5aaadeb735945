import java.lang.reflect.InvocationTargetException;
import java.lang.reflect.Method;
import java.util.ArrayList;
import java.util.List;
import java.util.regex.Matcher;
import java.util.regex.Pattern;

/** A method, as its promise's signature in the document tells it: what its numbers are, what it throws. */
final class Face {
    /** Beside the range of each number that a method takes, cells among them. */
    static final int[] ALWAYS_WRONG = {Integer.MIN_VALUE, -100, 300, Integer.MAX_VALUE};

    private static final Pattern SIGNATURE = Pattern.compile("`\\w+ (\\w+)\\((.*)\\)( throws (.*))?`");
    private static final List<String> CELL_NAMES = List.of("cell", "other", "first", "second", "into", "modulus");

    final String name;
    final boolean isAct;
    final List<String> thrown = new ArrayList<>();
    private final List<String> kinds = new ArrayList<>();
    private final List<String> names = new ArrayList<>();
    private final Method method;

    private Face(Matcher told, boolean isAct) {
        this.name = told.group(1);
        this.isAct = isAct;
        for (String parameter : told.group(2).isEmpty() ? new String[0] : told.group(2).split(", ")) {
            kinds.add(parameter.split(" ")[0]);
            names.add(parameter.split(" ")[1]);
        }
        if (told.group(4) != null) {
            thrown.addAll(List.of(told.group(4).split(", ")));
        }
        Class<?>[] types = new Class<?>[kinds.size()];
        for (int k = 0; k < types.length; k++) {
            types[k] = kinds.get(k).equals("boolean") ? boolean.class : int.class;
        }
        try {
            this.method = Carryfree.class.getMethod(name, types);
        } catch (NoSuchMethodException e) {
            throw new IllegalStateException(e);
        }
    }

    static List<Face> all() {
        List<Face> all = new ArrayList<>();
        boolean isAct = true;
        for (String line : Lines.ofDocument()) {
            Matcher told = SIGNATURE.matcher(line);
            if (told.matches()) {
                // The second group begins with degree().
                isAct = isAct && !told.group(1).equals("degree");
                all.add(new Face(told, isAct));
            }
        }
        return all;
    }

    int size() {
        return kinds.size();
    }

    boolean isCell(int k) {
        return CELL_NAMES.contains(names.get(k));
    }

    boolean isInto(int k) {
        return names.get(k).equals("into");
    }

    /** Of put() each int is good. */
    boolean hasWrong(int k) {
        return kinds.get(k).equals("int") && !names.get(k).equals("digits");
    }

    /** What throws nothing: each number is in its range, each cell is that one. */
    Object[] good(int cell) {
        Object[] told = new Object[kinds.size()];
        for (int k = 0; k < told.length; k++) {
            if (kinds.get(k).equals("boolean")) {
                told[k] = true;
            } else {
                told[k] = isCell(k) ? cell : names.get(k).equals("rank") ? 0 : 2;
            }
        }
        return told;
    }

    /** What it answers, or the plain name of what it throws. */
    Object on(Carryfree x, Object... told) {
        try {
            return method.invoke(x, told);
        } catch (InvocationTargetException e) {
            return "throws " + e.getCause().getClass().getSimpleName();
        } catch (IllegalAccessException e) {
            throw new IllegalStateException(e);
        }
    }
}
