import java.util.function.Consumer;

/** Promises 26 to 37 and 44: what is asked of cells, and changes nothing. */
public final class AskedTest {
    private static final int[] NO_CELLS = {-1, 6, Integer.MIN_VALUE, Integer.MAX_VALUE};
    private static final long TOP = 1L << 32;

    private AskedTest() {
    }

    public static void main(String[] args) {
        asked(AskedTest::degree);
        asked(AskedTest::low);
        asked(AskedTest::weight);
        asked(AskedTest::at);
        asked(AskedTest::digits);
        asked(AskedTest::text);
        asked(AskedTest::code);
        asked(AskedTest::order);
        asked(AskedTest::isSame);
        asked(AskedTest::value);
        asked(AskedTest::divides);
        asked(AskedTest::isFree);
        asked(AskedTest::find);
        Check.finish("AskedTest");
    }

    /** What is asked counts neither as an act nor as refused. Each test has an object of its own, for its 512 calls. */
    private static void asked(Consumer<Carryfree> test) {
        Carryfree x = Check.with(0, 1, 12, 0x80000000L, TOP + 6, 12);
        int acts = x.house(0);
        test.accept(x);
        Check.same("acts, after all that was asked", x.house(0), acts);
        Check.same("refusals, after all that was asked", x.house(1), 0);
    }

    private static void degree(Carryfree x) {
        int[] due = {-1, 0, 3, 31, 32, 3};
        for (int cell = 0; cell <= 5; cell++) {
            Check.same("degree of " + cell, x.degree(cell), due[cell]);
        }
        for (int no : NO_CELLS) {
            Check.throwsIndex("degree(" + no + ")", x, () -> x.degree(no));
        }
    }

    private static void low(Carryfree x) {
        int[] due = {-1, 0, 2, 31, 1, 2};
        for (int cell = 0; cell <= 5; cell++) {
            Check.same("low of " + cell, x.low(cell), due[cell]);
        }
        Check.same("low of X32", Check.with(TOP).low(0), 32);
        for (int no : NO_CELLS) {
            Check.throwsIndex("low(" + no + ")", x, () -> x.low(no));
        }
    }

    private static void weight(Carryfree x) {
        int[] due = {0, 1, 2, 1, 3, 2};
        for (int cell = 0; cell <= 5; cell++) {
            Check.same("weight of " + cell, x.weight(cell), due[cell]);
        }
        Check.same("weight of all places", Check.with(2 * TOP - 1).weight(0), 33);
        for (int no : NO_CELLS) {
            Check.throwsIndex("weight(" + no + ")", x, () -> x.weight(no));
        }
    }

    private static void at(Carryfree x) {
        for (int place = 0; place <= 99; place++) {
            Check.same("X32, X2 and X at " + place, x.at(4, place), place == 32 || place == 2 || place == 1);
            Check.same("ONE at " + place, x.at(1, place), place == 0);
        }
        Check.throwsArgument("at -1", x, () -> x.at(4, -1));
        Check.throwsArgument("at 100", x, () -> x.at(4, 100));
        for (int no : NO_CELLS) {
            Check.throwsIndex("at(" + no + ", 0)", x, () -> x.at(no, 0));
            Check.throwsIndex("at(" + no + ", 100)", x, () -> x.at(no, 100));
        }
    }

    private static void digits(Carryfree x) {
        int[] due = {0, 1, 12, Integer.MIN_VALUE, 6, 12};
        for (int cell = 0; cell <= 5; cell++) {
            Check.same("digits of " + cell, x.digits(cell), due[cell]);
        }
        for (int no : NO_CELLS) {
            Check.throwsIndex("digits(" + no + ")", x, () -> x.digits(no));
        }
    }

    private static void text(Carryfree x) {
        String[] due = {"-", "0", "3 2", "31", "32 2 1", "3 2"};
        for (int cell = 0; cell <= 5; cell++) {
            Check.same("text of " + cell, x.text(cell), due[cell]);
        }
        for (int no : NO_CELLS) {
            Check.throwsIndex("text(" + no + ")", x, () -> x.text(no));
        }
    }

    private static void code(Carryfree x) {
        long[] numbers = {0, 1, 12, 0x80000000L, TOP + 6, 12};
        for (int cell = 0; cell <= 5; cell++) {
            for (int radix = 2; radix <= 36; radix++) {
                String due = Long.toString(numbers[cell], radix);
                Check.same("code of " + cell + " in " + radix, Check.with(numbers).code(cell, radix), due);
            }
        }
        Check.same("all signs there are", Check.with(35L * 36 + 10).code(0, 36), "za");
        for (int no : new int[] {1, 37, 0, -1, Integer.MIN_VALUE, Integer.MAX_VALUE}) {
            Check.throwsArgument("code in " + no, x, () -> x.code(4, no));
        }
        for (int no : NO_CELLS) {
            Check.throwsIndex("code(" + no + ", 10)", x, () -> x.code(no, 10));
            Check.throwsIndex("code(" + no + ", 1)", x, () -> x.code(no, 1));
        }
    }

    private static void order(Carryfree x) {
        Check.same("ZERO and ONE", x.order(0, 1), -1);
        Check.same("12 and ONE", x.order(2, 1), 1);
        Check.same("12 and 12", x.order(2, 5), 0);
        Check.same("one with itself", x.order(4, 4), 0);
        Check.same("X31 and ONE", x.order(3, 1), 1);
        Check.same("X31 and one with X32", x.order(3, 4), -1);
        for (int no : NO_CELLS) {
            Check.throwsIndex("order(" + no + ", 0)", x, () -> x.order(no, 0));
            Check.throwsIndex("order(0, " + no + ")", x, () -> x.order(0, no));
        }
    }

    private static void isSame(Carryfree x) {
        Check.same("12 and 12", x.isSame(2, 5), true);
        Check.same("one with itself", x.isSame(4, 4), true);
        Check.same("12 and ONE", x.isSame(2, 1), false);
        Carryfree y = Check.with(TOP + 6, 6);
        Check.same("but for the place 32", y.isSame(0, 1), false);
        for (int no : NO_CELLS) {
            Check.throwsIndex("isSame(" + no + ", 0)", x, () -> x.isSame(no, 0));
            Check.throwsIndex("isSame(0, " + no + ")", x, () -> x.isSame(0, no));
        }
    }

    private static void value(Carryfree x) {
        int[] atZero = {0, 1, 0, 0, 0, 0};
        int[] atOne = {0, 1, 0, 1, 1, 0};
        for (int cell = 0; cell <= 5; cell++) {
            Check.same("value at 0 of " + cell, x.value(cell, false), atZero[cell]);
            Check.same("value at 1 of " + cell, x.value(cell, true), atOne[cell]);
        }
        for (int no : NO_CELLS) {
            Check.throwsIndex("value(" + no + ", true)", x, () -> x.value(no, true));
            Check.throwsIndex("value(" + no + ", false)", x, () -> x.value(no, false));
        }
    }

    private static void divides(Carryfree x) {
        Check.same("ZERO and ZERO", x.divides(0, 0), true);
        Check.same("ZERO and ONE", x.divides(0, 1), false);
        Check.same("ONE and ZERO", x.divides(1, 0), true);
        Check.same("ONE and 12", x.divides(1, 2), true);
        Check.same("12 and ONE", x.divides(2, 1), false);
        Check.same("one and itself", x.divides(4, 4), true);
        Carryfree y = Check.with(3, 11, 29, TOP + 1, 7);
        Check.same("X and ONE in its product", y.divides(0, 2), true);
        Check.same("1011 in its product", y.divides(1, 2), true);
        Check.same("a product in its part", y.divides(2, 1), false);
        Check.same("X and ONE in X32 and ONE", y.divides(0, 3), true);
        Check.same("X2, X and ONE in X32 and ONE", y.divides(4, 3), false);
        for (int no : NO_CELLS) {
            Check.throwsIndex("divides(" + no + ", 0)", x, () -> x.divides(no, 0));
            Check.throwsIndex("divides(0, " + no + ")", x, () -> x.divides(0, no));
        }
    }

    private static boolean isFreeOf(long number) {
        return Check.with(number).isFree(0);
    }

    private static void isFree(Carryfree x) {
        Check.same("ZERO", isFreeOf(0), false);
        Check.same("ONE", isFreeOf(1), true);
        Check.same("X", isFreeOf(2), true);
        Check.same("X2", isFreeOf(4), false);
        Check.same("X2 and X", isFreeOf(6), true);
        Check.same("X2 and ONE", isFreeOf(5), false);
        Check.same("X3 and X2", isFreeOf(12), false);
        Check.same("X4, X2 and ONE", isFreeOf(21), false);
        Check.same("X32 and X", isFreeOf(TOP + 2), true);
        Check.same("X32 and ONE", isFreeOf(TOP + 1), false);
        Check.same("X31 and ONE", isFreeOf(0x80000001L), true);
        for (int no : NO_CELLS) {
            Check.throwsIndex("isFree(" + no + ")", x, () -> x.isFree(no));
        }
    }

    private static void find(Carryfree x) {
        Check.same("the first 12 from the last", x.find(5, false), 2);
        Check.same("the last 12 from the first", x.find(2, true), 5);
        Check.same("the first 12 from itself", x.find(2, false), 2);
        Check.same("the last 12 from itself", x.find(5, true), 5);
        Check.same("one alone, first", x.find(3, false), 3);
        Check.same("one alone, last", x.find(3, true), 3);
        Carryfree y = new Carryfree();
        Check.same("the first one of six", y.find(3, false), 0);
        Check.same("the last one of six", y.find(3, true), 5);
        Carryfree z = Check.with(TOP, 0, TOP, 0);
        Check.same("not the same but for the place 32", z.find(2, false), 0);
        Check.same("the last TOP", z.find(0, true), 2);
        for (int no : NO_CELLS) {
            Check.throwsIndex("find(" + no + ", true)", x, () -> x.find(no, true));
            Check.throwsIndex("find(" + no + ", false)", x, () -> x.find(no, false));
        }
    }
}
