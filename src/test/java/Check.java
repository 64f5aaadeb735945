import java.util.function.Supplier;

/** What the tests share: the first wrong answers are printed, and finish() ends the run with exit code 1. */
final class Check {
    private static final int MOST_TOLD = 50;
    private static int wrong = 0;
    private static int checks = 0;

    private Check() {
    }

    static void same(String what, Object got, Object want) {
        checks++;
        if (!want.equals(got)) {
            wrong++;
            if (wrong <= MOST_TOLD) {
                System.out.println(what + " answered " + got + ", due is " + want);
            }
        }
    }

    static int count() {
        return checks;
    }

    /** Everything that can be asked of the state, in one text. */
    private static String state(Carryfree x) {
        return stateButRefusals(x) + "/" + x.house(1);
    }

    private static String stateButRefusals(Carryfree x) {
        StringBuilder all = new StringBuilder();
        for (int cell = 0; cell < 6; cell++) {
            all.append(x.text(cell)).append('/');
        }
        return all.append(x.house(0)).append('/').append(x.house(2)).toString();
    }

    static void throwsIndex(String what, Carryfree x, Runnable call) {
        throwsJust(IndexOutOfBoundsException.class, what, x, call);
    }

    static void throwsArgument(String what, Carryfree x, Runnable call) {
        throwsJust(IllegalArgumentException.class, what, x, call);
    }

    private static void throwsJust(Class<?> kind, String what, Carryfree x, Runnable call) {
        String before = state(x);
        Object thrown = "nothing";
        try {
            call.run();
        } catch (RuntimeException e) {
            thrown = e.getClass();
        }
        same(what + " throws", thrown, kind);
        same(what + " changed the state", state(x), before);
    }

    static void throwsNothing(String what, Runnable call) {
        Object thrown = "nothing";
        try {
            call.run();
        } catch (RuntimeException e) {
            thrown = e.getClass();
        }
        same(what + " throws", thrown, "nothing");
    }

    /** REFUSED changes nothing but its count. */
    static void refused(String what, Carryfree x, Supplier<Object> call) {
        String before = stateButRefusals(x);
        int count = x.house(1);
        Object answer = call.get();
        same(what + " is refused", answer, answer instanceof String ? "!" : (Object) (-9));
        same(what + " counts as refused", x.house(1), count + 1);
        same(what + " refused changed the state", stateButRefusals(x), before);
    }

    static void act(String what, Carryfree x, Supplier<Object> call, Object answer, int cell, String text) {
        int acts = x.house(0);
        int refusals = x.house(1);
        same(what, call.get(), answer);
        same(what + ": what the cell has", x.text(cell), text);
        same(what + ": acts", x.house(0), acts + 1);
        same(what + ": refusals", x.house(1), refusals);
    }

    /** A new object whose cells have what these numbers tell. */
    static Carryfree with(long... numbers) {
        Carryfree x = new Carryfree();
        for (int cell = 0; cell < numbers.length; cell++) {
            x.put(cell, (int) numbers[cell]);
            x.digit(cell, 32, (numbers[cell] >>> 32 & 1) == 1);
        }
        return x;
    }

    static void finish(String name) {
        System.out.println(name + ": " + checks + " checks, " + wrong + " wrong");
        if (wrong > 0 || checks == 0) {
            System.exit(1);
        }
    }
}
