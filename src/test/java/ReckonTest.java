/** Promises 10 to 21: products, quotients, common parts, and what one polynomial becomes. */
public final class ReckonTest {
    private static final int[] NO_CELLS = {-1, 6, Integer.MIN_VALUE, Integer.MAX_VALUE};
    private static final long TOP = 1L << 32;

    private ReckonTest() {
    }

    public static void main(String[] args) {
        times();
        square();
        shift();
        quotient();
        rest();
        gcd();
        lcm();
        bezout();
        derive();
        root();
        turn();
        move();
        Check.finish("ReckonTest");
    }

    private interface Pair {
        int of(Carryfree x, int first, int second, int into);
    }

    private interface Single {
        int of(Carryfree x, int cell, int into);
    }

    private static void wrongCells(String name, Pair call) {
        Carryfree x = Check.with(3, 5, 0);
        for (int no : NO_CELLS) {
            Check.throwsIndex(name + "(" + no + ", 0, 0)", x, () -> call.of(x, no, 0, 0));
            Check.throwsIndex(name + "(0, " + no + ", 0)", x, () -> call.of(x, 0, no, 0));
            Check.throwsIndex(name + "(0, 0, " + no + ")", x, () -> call.of(x, 0, 0, no));
            Check.throwsIndex(name + "(0, 2, " + no + "), before ZERO is refused", x, () -> call.of(x, 0, 2, no));
        }
    }

    private static void wrongCells(String name, Single call) {
        Carryfree x = Check.with(3, 5, TOP);
        for (int no : NO_CELLS) {
            Check.throwsIndex(name + "(" + no + ", 0)", x, () -> call.of(x, no, 0));
            Check.throwsIndex(name + "(0, " + no + "), refused or not", x, () -> call.of(x, 0, no));
            Check.throwsIndex(name + "(2, " + no + "), refused or not", x, () -> call.of(x, 2, no));
        }
    }

    private static void times() {
        Carryfree x = Check.with(11, 3, 1 << 16, (1 << 16) + 1, 1 << 17, 0);
        Check.act("1011 by 11", x, () -> x.times(0, 1, 0), 1, 0, "4 3 2 0");
        Check.act("by itself", x, () -> x.times(1, 1, 1), 1, 1, "2 0");
        Check.act("by ZERO", x, () -> x.times(2, 5, 5), 0, 5, "-");
        Check.refused("a degree of 33", x, () -> x.times(2, 4, 2));
        Check.refused("a degree of 34", x, () -> x.times(4, 4, 0));
        Check.act("a degree of 32", x, () -> x.times(2, 3, 2), 1, 2, "32 16");
        x.put(0, 1);
        Check.act("32 by ONE", x, () -> x.times(2, 0, 2), 0, 2, "32 16");
        Check.refused("a degree of 64", x, () -> x.times(2, 2, 2));
        Check.act("32 by ZERO", x, () -> x.times(2, 5, 2), 1, 2, "-");
        wrongCells("times", Carryfree::times);
    }

    private static void square() {
        Carryfree x = Check.with(7, (1 << 17) - 1, 1 << 17, TOP);
        Check.act("of 111", x, () -> x.square(0, 0), 1, 0, "4 2 0");
        Check.act("of ZERO", x, () -> x.square(5, 5), 0, 5, "-");
        Check.act("of degree 16", x, () -> x.square(1, 5), 1, 5,
            "32 30 28 26 24 22 20 18 16 14 12 10 8 6 4 2 0");
        Check.refused("of degree 17", x, () -> x.square(2, 2));
        Check.refused("of degree 32", x, () -> x.square(3, 3));
        wrongCells("square", Carryfree::square);
    }

    private static void shift() {
        Carryfree x = Check.with(11, TOP + 1, 0, 1);
        Check.act("up to the top", x, () -> x.shift(0, 29, 5), 1, 5, "32 30 29");
        Check.refused("above the top", x, () -> x.shift(0, 30, 5));
        Check.act("down", x, () -> x.shift(0, -1, 0), 1, 0, "2 0");
        Check.act("by 0", x, () -> x.shift(0, 0, 0), 0, 0, "2 0");
        Check.act("down by 32", x, () -> x.shift(1, -32, 5), 1, 5, "0");
        Check.refused("32 up by 1", x, () -> x.shift(1, 1, 1));
        Check.act("ZERO up by 32", x, () -> x.shift(2, 32, 2), 0, 2, "-");
        Check.act("ONE up by 32", x, () -> x.shift(3, 32, 3), 1, 3, "32");
        Check.act("all goes", x, () -> x.shift(0, -32, 0), 1, 0, "-");
        Check.throwsArgument("by 33", x, () -> x.shift(0, 33, 0));
        Check.throwsArgument("by -33", x, () -> x.shift(0, -33, 0));
        Check.throwsArgument("by the least int, what would be refused", x, () -> x.shift(1, Integer.MIN_VALUE, 0));
        Check.throwsArgument("by the greatest int, what would be refused", x, () -> x.shift(1, Integer.MAX_VALUE, 0));
        for (int no : NO_CELLS) {
            Check.throwsIndex("shift(1, 33, " + no + ")", x, () -> x.shift(1, 33, no));
            Check.throwsIndex("shift(" + no + ", 33, 1)", x, () -> x.shift(no, 33, 1));
        }
        wrongCells("shift", (y, cell, into) -> y.shift(cell, 5, into));
    }

    private static void quotient() {
        Carryfree x = Check.with(0b1110110, 0b1011, TOP + 1, 3, 0, 1);
        Check.act("into one that is told", x, () -> x.quotient(0, 1, 0), 1, 0, "3 2");
        Check.act("of a lesser degree", x, () -> x.quotient(3, 1, 0), 1, 0, "-");
        Check.act("of degree 32 by X and ONE", x, () -> x.quotient(2, 3, 0), 1, 0,
            "31 30 29 28 27 26 25 24 23 22 21 20 19 18 17 16 15 14 13 12 11 10 9 8 7 6 5 4 3 2 1 0");
        Check.act("by ONE", x, () -> x.quotient(2, 5, 0), 1, 0, "32 0");
        Check.act("by itself", x, () -> x.quotient(2, 2, 0), 1, 0, "0");
        Check.act("of ZERO", x, () -> x.quotient(4, 2, 0), 1, 0, "-");
        Check.refused("by ZERO", x, () -> x.quotient(1, 4, 1));
        Check.refused("ZERO by ZERO", x, () -> x.quotient(4, 4, 1));
        wrongCells("quotient", Carryfree::quotient);
    }

    private static void rest() {
        Carryfree x = Check.with(0b1110110, 0b1011, TOP, 0b100101, 0, 1);
        Check.act("into one that is told", x, () -> x.rest(0, 1, 0), 1, 0, "1");
        Check.act("of a lesser degree", x, () -> x.rest(1, 3, 0), 1, 0, "3 1 0");
        Check.act("32 by a period of 31", x, () -> x.rest(2, 3, 0), 1, 0, "1");
        Check.act("by ONE", x, () -> x.rest(2, 5, 0), 1, 0, "-");
        Check.act("of ZERO", x, () -> x.rest(4, 2, 0), 0, 0, "-");
        Check.refused("by ZERO", x, () -> x.rest(1, 4, 1));
        Check.refused("ZERO by ZERO", x, () -> x.rest(4, 4, 1));
        wrongCells("rest", Carryfree::rest);
    }

    private static void gcd() {
        Carryfree x = Check.with(0b1001, 0b10001, 0, TOP, 11);
        Check.act("of X3 and ONE, X4 and ONE", x, () -> x.gcd(0, 1, 5), 1, 5, "1 0");
        Check.act("turned about", x, () -> x.gcd(1, 0, 5), 0, 5, "1 0");
        Check.act("with ZERO", x, () -> x.gcd(4, 2, 5), 1, 5, "3 1 0");
        Check.act("ZERO with one", x, () -> x.gcd(2, 3, 5), 1, 5, "32");
        Check.act("of two without common parts", x, () -> x.gcd(3, 4, 3), 1, 3, "0");
        Check.act("ZERO with ZERO", x, () -> x.gcd(2, 2, 5), 1, 5, "-");
        Check.act("with itself", x, () -> x.gcd(4, 4, 4), 0, 4, "3 1 0");
        wrongCells("gcd", Carryfree::gcd);
    }

    private static void lcm() {
        Carryfree x = Check.with(0b1001, 0b10001, 0, TOP, 3, TOP + 1);
        // (X and ONE)(X2, X and ONE)(X and ONE)^3.
        Check.act("of X3 and ONE, X4 and ONE", x, () -> x.lcm(0, 1, 0), 1, 0, "6 5 4 2 1 0");
        Check.act("with ZERO", x, () -> x.lcm(0, 2, 1), 1, 1, "-");
        Check.act("ZERO with one", x, () -> x.lcm(2, 3, 1), 0, 1, "-");
        Check.act("ZERO with ZERO", x, () -> x.lcm(2, 2, 1), 0, 1, "-");
        Check.act("with itself, of degree 32", x, () -> x.lcm(3, 3, 1), 1, 1, "32");
        Check.act("with a part of itself", x, () -> x.lcm(4, 5, 1), 1, 1, "32 0");
        Check.refused("of degree 33", x, () -> x.lcm(3, 4, 1));
        Check.refused("of degree 64", x, () -> x.lcm(3, 5, 1));
        // X20 and X have the part X with X14, X2 and X; they have X2 and X with X14 and X.
        Carryfree y = Check.with((1 << 20) + 2, (1 << 14) + 6, (1 << 14) + 2);
        Check.refused("20 and 14 places less 1", y, () -> y.lcm(0, 1, 5));
        Check.same("20 and 14 places less 2", y.lcm(0, 2, 5), 1);
        Check.same("the degree then", y.degree(5), 32);
        wrongCells("lcm", Carryfree::lcm);
    }

    private static void bezout() {
        Carryfree x = Check.with(11, 3, 0, 19, TOP);
        Check.act("the first of 1011 and 11", x, () -> x.bezout(0, 1, true, 5), 1, 5, "0");
        Check.act("the second of 1011 and 11", x, () -> x.bezout(0, 1, false, 5), 1, 5, "2 1");
        Check.act("the first of 11 and 1011", x, () -> x.bezout(1, 0, true, 5), 0, 5, "2 1");
        Check.act("the second of 11 and 1011", x, () -> x.bezout(1, 0, false, 5), 1, 5, "0");
        Check.act("the first with ZERO", x, () -> x.bezout(0, 2, true, 5), 0, 5, "0");
        Check.act("the second with ZERO", x, () -> x.bezout(0, 2, false, 5), 1, 5, "-");
        Check.act("the first of ZERO and one", x, () -> x.bezout(2, 0, true, 5), 0, 5, "-");
        Check.act("the second of ZERO and one", x, () -> x.bezout(2, 0, false, 5), 1, 5, "0");
        Check.act("the first of ZERO twice", x, () -> x.bezout(2, 2, true, 5), 0, 5, "0");
        Check.act("the second of ZERO twice", x, () -> x.bezout(2, 2, false, 5), 1, 5, "-");
        Check.act("the first of one twice", x, () -> x.bezout(3, 3, true, 5), 0, 5, "-");
        Check.act("the second of one twice", x, () -> x.bezout(3, 3, false, 5), 1, 5, "0");
        // 1011 by 101 is 100111, and that leaves the rest ONE by 10011.
        Check.act("into one that is told", x, () -> x.bezout(0, 3, true, 0), 1, 0, "2 0");
        Check.act("the second one of X32", x, () -> x.bezout(1, 4, false, 1), 1, 1, "0");
        wrongCells("bezout", (y, a, b, into) -> y.bezout(a, b, true, into));
        wrongCells("bezout, second", (y, a, b, into) -> y.bezout(a, b, false, into));
    }

    private static void derive() {
        Carryfree x = Check.with(0b1011, TOP + 4 + 1, 0x80000000L);
        Check.act("of 1011", x, () -> x.derive(0, 0), 1, 0, "2 0");
        Check.act("even places go", x, () -> x.derive(1, 1), 1, 1, "-");
        Check.act("the place 31", x, () -> x.derive(2, 3), 1, 3, "30");
        Check.act("ZERO", x, () -> x.derive(5, 5), 0, 5, "-");
        wrongCells("derive", Carryfree::derive);
    }

    private static void root() {
        Carryfree x = Check.with(0b1010101, TOP + 1, 2, 0, TOP + 0x80000000L, 1);
        Check.act("of 1010101", x, () -> x.root(0, 0), 1, 0, "3 2 1 0");
        Check.act("of degree 32", x, () -> x.root(1, 1), 1, 1, "16 0");
        Check.act("of ZERO", x, () -> x.root(3, 3), 0, 3, "-");
        Check.act("of ONE", x, () -> x.root(5, 5), 0, 5, "0");
        Check.refused("of X", x, () -> x.root(2, 0));
        Check.refused("with a one at 31", x, () -> x.root(4, 4));
        wrongCells("root", Carryfree::root);
    }

    private static void turn() {
        Carryfree x = Check.with(0b1011, 0b1100, TOP + 2, 0);
        Check.act("of 1011", x, () -> x.turn(0, 0), 1, 0, "3 2 0");
        Check.act("its low places go", x, () -> x.turn(1, 1), 1, 1, "1 0");
        Check.act("of degree 32", x, () -> x.turn(2, 2), 1, 2, "31 0");
        Check.act("ZERO stays", x, () -> x.turn(3, 3), 0, 3, "-");
        wrongCells("turn", Carryfree::turn);
    }

    private static void move() {
        Carryfree x = Check.with(0b111, TOP, 0, 1, 0b1100, 0x80000000L);
        Check.act("of X2, X and ONE", x, () -> x.move(0, 0), 0, 0, "2 1 0");
        Check.act("of degree 32", x, () -> x.move(1, 1), 1, 1, "32 0");
        Check.act("of ZERO", x, () -> x.move(2, 2), 0, 2, "-");
        Check.act("of ONE", x, () -> x.move(3, 3), 0, 3, "0");
        // X3 becomes X3, X2, X and ONE; X2 becomes X2 and ONE.
        Check.act("of X3 and X2", x, () -> x.move(4, 4), 1, 4, "3 1");
        x.move(5, 5);
        Check.same("of X31", x.weight(5), 32);
        wrongCells("move", Carryfree::move);
    }
}
