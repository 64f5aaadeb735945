import java.lang.reflect.Constructor;
import java.lang.reflect.Field;
import java.lang.reflect.Method;
import java.lang.reflect.Modifier;
import java.util.HashSet;
import java.util.Set;
import java.util.TreeSet;

/** The public face is that of the document, and nothing beside it can be seen from outside. */
public final class FaceTest {
    private FaceTest() {
    }

    public static void main(String[] args) {
        Set<String> due = faceOfDocument();
        Check.same("methods in the document", due.size(), 47);
        Set<String> got = new TreeSet<>();
        Set<String> names = new HashSet<>();
        for (Method method : Carryfree.class.getDeclaredMethods()) {
            if (Modifier.isPublic(method.getModifiers())) {
                got.add(told(method));
                names.add(method.getName());
            } else {
                Check.same(method + " is private", Modifier.isPrivate(method.getModifiers()), true);
            }
        }
        Check.same("the face", got, due);
        restIsHidden(names);
        Check.finish("FaceTest");
    }

    private static void restIsHidden(Set<String> names) {
        Check.same("final", Modifier.isFinal(Carryfree.class.getModifiers()), true);
        Constructor<?>[] constructors = Carryfree.class.getDeclaredConstructors();
        Check.same("constructors", constructors.length, 1);
        Check.same("public constructors", Carryfree.class.getConstructors().length, 1);
        Check.same("what the constructor takes", constructors[0].getParameterCount(), 0);
        for (Field field : Carryfree.class.getDeclaredFields()) {
            Check.same(field + " is private", Modifier.isPrivate(field.getModifiers()), true);
        }
        for (Method method : Carryfree.class.getDeclaredMethods()) {
            boolean isPublic = Modifier.isPublic(method.getModifiers());
            Check.same(method + " has a name of its own", isPublic || !names.contains(method.getName()), true);
        }
        for (Class<?> inside : Carryfree.class.getDeclaredClasses()) {
            boolean isHidden = !Modifier.isPublic(inside.getModifiers()) && !Modifier.isProtected(inside.getModifiers());
            Check.same(inside + " is hidden and static", isHidden && Modifier.isStatic(inside.getModifiers()), true);
            for (Method method : inside.getDeclaredMethods()) {
                Check.same(method + " has a name of its own", names.contains(method.getName()), false);
            }
        }
    }

    private static String told(Method method) {
        StringBuilder all = new StringBuilder(method.getReturnType().getSimpleName());
        all.append(' ').append(method.getName()).append('(');
        for (Class<?> type : method.getParameterTypes()) {
            all.append(type.getSimpleName()).append(' ');
        }
        all.append(')');
        for (Class<?> type : method.getExceptionTypes()) {
            all.append(' ').append(type.getSimpleName());
        }
        return all.toString();
    }

    private static Set<String> faceOfDocument() {
        Set<String> all = new TreeSet<>();
        for (String line : Lines.ofDocument()) {
            if (line.startsWith("    public ") && !line.startsWith("    public Carryfree")) {
                String told = line.trim().substring("public ".length()).replace(";", "");
                String types = told.substring(told.indexOf('(') + 1, told.indexOf(')'));
                String kept = types.isEmpty() ? "" : types.replaceAll(" \\w+(, )?", " ");
                String thrown = told.contains(" throws ") ? told.substring(told.indexOf(" throws ") + 7) : "";
                all.add(told.substring(0, told.indexOf('(') + 1) + kept + ")" + thrown.replace(",", ""));
            }
        }
        return all;
    }
}
