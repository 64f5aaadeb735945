import java.lang.reflect.InvocationTargetException;
import java.lang.reflect.Method;
import java.util.ArrayList;
import java.util.Arrays;
import java.util.Comparator;
import java.util.HashMap;
import java.util.List;
import java.util.Map;

/** Long runs of calls, the same ones each time, whose answers are compared with those of the Model. */
public final class ModelTest {
    private static final int RUNS = 300;
    private static final int CALLS = 250;
    private static final Map<String, String> KINDS = new HashMap<>();
    private static long seed = 20261119;

    private ModelTest() {
    }

    public static void main(String[] args) throws Exception {
        tellKinds();
        List<Method> methods = new ArrayList<>(Arrays.asList(Model.class.getDeclaredMethods()));
        methods.removeIf(m -> !KINDS.containsKey(m.getName()));
        methods.sort(Comparator.comparing(Method::getName));
        Check.same("methods that are tried", methods.size(), 47);
        for (int run = 0; run < RUNS; run++) {
            run(run, methods);
        }
        Check.finish("ModelTest");
    }

    private static void run(int run, List<Method> methods) throws Exception {
        Carryfree got = new Carryfree();
        Model due = new Model();
        // In some runs the polynomials stay small, so that what is bound to small degrees is reached.
        int width = new int[] {3, 6, 9, 13, 20, 32}[run % 6];
        for (int call = 0; call < CALLS; call++) {
            Method method = below(4) == 0 ? methods.get(indexOfPut(methods)) : methods.get(below(methods.size()));
            Object[] told = arguments(KINDS.get(method.getName()), width);
            String what = "run " + run + ", call " + call + ": " + method.getName() + Arrays.toString(told);
            Method same = Carryfree.class.getMethod(method.getName(), method.getParameterTypes());
            Check.same(what, answer(same, got, told), answer(method, due, told));
            Check.same(what + ", and then digest()", got.digest(), due.digest());
        }
    }

    private static int indexOfPut(List<Method> methods) {
        int k = 0;
        while (!methods.get(k).getName().equals("put")) {
            k++;
        }
        return k;
    }

    private static Object answer(Method method, Object on, Object[] told) throws IllegalAccessException {
        try {
            return method.invoke(on, told);
        } catch (InvocationTargetException e) {
            return e.getCause().getClass();
        }
    }

    private static Object[] arguments(String kinds, int width) {
        Object[] told = new Object[kinds.length()];
        for (int k = 0; k < told.length; k++) {
            told[k] = argument(kinds.charAt(k), width);
        }
        return told;
    }

    private static Object argument(char kind, int width) {
        switch (kind) {
            case 'c': return number(0, 5);
            case 'd': return digits(width);
            case 'p': return number(0, below(2) == 0 ? 32 : width);
            case 'a': return number(0, 99);
            case 'h': return number(0, 3);
            case 's': return number(-32, 32);
            case 't': return number(0, 255);
            case 'e': return number(1, 8);
            case 'r': return number(0, below(2) == 0 ? 40 : 5);
            case 'n': return number(1, 5);
            case 'x': return number(2, 36);
            case 'w': return number(0, 4);
            default: return below(2) == 0;
        }
    }

    private static int digits(int width) {
        int all = below(1 << 16) << 16 | below(1 << 16);
        int thinner = below(3) == 0 ? all & (below(1 << 16) << 16 | below(1 << 16)) : all;
        return width == 32 ? thinner : thinner & ((1 << width) - 1);
    }

    /** From least to greatest; now and then one that is beside them. */
    private static int number(int least, int greatest) {
        if (below(40) == 0) {
            return new int[] {least - 1, greatest + 1, Integer.MIN_VALUE, Integer.MAX_VALUE}[below(4)];
        }
        return least + below(greatest - least + 1);
    }

    private static int below(int end) {
        seed = seed * 6364136223846793005L + 1442695040888963407L;
        return (int) ((seed >>> 33) % end);
    }

    private static void tellKinds() {
        String all = "put:cd mono:cp digit:cpb flip:cp copy:cc swap:cc end:ccbc join:cchc times:ccc square:cc"
            + " shift:csc quotient:ccc rest:ccc gcd:ccc lcm:ccc bezout:ccbc derive:cc root:cc turn:cc move:cc"
            + " power:ctcc nth:erc field:nc again:cxc degree:c low:c weight:c at:ca digits:c text:c code:cx"
            + " order:cc isSame:cc value:cb divides:cc isFree:c irreducible:c rank:c factors:c period:c many:e"
            + " formula:e find:cb house:w knock: isSound: digest:";
        for (String one : all.split(" ")) {
            KINDS.put(one.substring(0, one.indexOf(':')), one.substring(one.indexOf(':') + 1));
        }
    }
}
