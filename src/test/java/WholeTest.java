/** Promises 1 and 45 to 48: a new object, and what is told of the whole. */
public final class WholeTest {
    private static final long TOP = 1L << 32;

    private WholeTest() {
    }

    public static void main(String[] args) {
        newObject();
        house();
        knock();
        isSound();
        digest();
        twoObjects();
        Check.finish("WholeTest");
    }

    private static void newObject() {
        Carryfree x = new Carryfree();
        for (int cell = 0; cell <= 5; cell++) {
            Check.same("a new cell", x.text(cell), "-");
        }
        int[] due = {0, 0, 0, 6, 0};
        for (int what = 0; what <= 4; what++) {
            Check.same("house(" + what + ") of a new object", x.house(what), due[what]);
        }
        Check.same("a new object is sound", x.isSound(), true);
    }

    private static void house() {
        Carryfree x = new Carryfree();
        x.put(0, 7);
        x.put(0, 7);
        x.mono(1, 32);
        x.digit(2, 1, false);
        x.flip(2, 1);
        x.copy(0, 3);
        x.swap(4, 4);
        Check.same("acts, those that change nothing too", x.house(0), 7);
        Check.same("refusals", x.house(1), 0);
        x.square(1, 1);
        x.quotient(0, 5, 0);
        x.irreducible(1);
        x.factors(1);
        x.period(5);
        x.rank(1);
        Check.same("refusals, those of what is asked too", x.house(1), 6);
        Check.same("acts, without those refused", x.house(0), 7);
        Check.throwsIndex("an act that throws", x, () -> x.copy(0, 6));
        Check.same("cells with ZERO", x.house(3), 2);
        Check.same("all weights", x.house(4), 3 + 1 + 1 + 3);
        Check.same("knocks", x.house(2), 0);
        for (int no : new int[] {-1, 5, Integer.MIN_VALUE, Integer.MAX_VALUE}) {
            Check.throwsArgument("house(" + no + ")", x, () -> x.house(no));
        }
    }

    private static void knock() {
        Carryfree x = Check.with(3);
        int acts = x.house(0);
        for (int k = 1; k <= 5; k++) {
            Check.same("knock", x.knock(), k);
            Check.same("house(2) behind it", x.house(2), k);
        }
        Check.same("a knock is no act", x.house(0), acts);
    }

    private static void isSound() {
        long[][] pairs = {{0, 0}, {1, 0}, {0, 1}, {TOP, TOP + 1}, {2 * TOP - 1, 0x80000001L}, {TOP + 5, 3}, {3, TOP}};
        for (long[] pair : pairs) {
            Check.same("soundness of " + pair[0] + " and " + pair[1], Check.with(pair).isSound(), true);
        }
    }

    private static void digest() {
        long due = 7686;
        int[] ofZero = {0, -1, -1, 0, 5};
        for (int k = 0; k < 30; k++) {
            due = due * 31 + ofZero[k % 5];
        }
        for (int v : new int[] {0, 0, 0, 0, 0, 0, 0, 0, 6, 0, 1}) {
            due = due * 31 + v;
        }
        Carryfree x = new Carryfree();
        Check.same("digest of a new object", x.digest(), due);
        Check.same("digest changes nothing", x.digest(), due);
        x.put(0, -1);
        x.mono(1, 32);
        x.flip(1, 1);
        x.knock();
        x.square(1, 1);
        due = 7686;
        for (int v : new int[] {-1, 31, 0, 32, 0, 2, 32, 1, 2, 1}) {
            due = due * 31 + v;
        }
        for (int k = 0; k < 20; k++) {
            due = due * 31 + ofZero[k % 5];
        }
        for (int v : new int[] {-1, 1, 0, 0, 0, 3, 1, 1, 4, 34, 1}) {
            due = due * 31 + v;
        }
        Check.same("digest with minus digits", x.digest(), due);
    }

    private static void twoObjects() {
        Carryfree x = new Carryfree();
        Carryfree y = new Carryfree();
        long before = y.digest();
        x.put(0, 5);
        x.knock();
        x.quotient(0, 1, 2);
        Check.same("one object has nothing of another one", y.digest(), before);
    }
}
