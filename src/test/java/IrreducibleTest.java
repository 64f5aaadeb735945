/** Promises 22 to 25 and 38 to 43: powers, irreducible ones, codes that are read again. */
public final class IrreducibleTest {
    private static final int[] NO_CELLS = {-1, 6, Integer.MIN_VALUE, Integer.MAX_VALUE};
    private static final int[] HOW_MANY = {0, 2, 1, 2, 3, 6, 9, 18, 30};
    private static final long TOP = 1L << 32;

    private IrreducibleTest() {
    }

    public static void main(String[] args) {
        power();
        nth();
        field();
        again();
        irreducible();
        rank();
        factors();
        period();
        many();
        formula();
        Check.finish("IrreducibleTest");
    }

    private static void power() {
        Carryfree x = Check.with(2, 0b10011, 1, 0b1100000000101, TOP + 1, 0);
        Check.act("X 4 times", x, () -> x.power(0, 4, 1, 5), 1, 5, "1 0");
        Check.act("X 15 times", x, () -> x.power(0, 15, 1, 5), 1, 5, "0");
        Check.act("0 times", x, () -> x.power(0, 0, 1, 5), 0, 5, "0");
        Check.act("X 255 times", x, () -> x.power(0, 255, 1, 5), 0, 5, "0");
        Check.act("X 254 times", x, () -> x.power(0, 254, 1, 5), 1, 5, "3 0");
        Check.act("a modulus of degree 12", x, () -> x.power(0, 12, 3, 5), 1, 5, "11 2 0");
        Check.act("X32 and ONE once: the period is 15", x, () -> x.power(4, 1, 1, 5), 1, 5, "2 0");
        x.put(5, 0);
        Check.act("ZERO 0 times", x, () -> x.power(5, 0, 1, 5), 1, 5, "0");
        x.put(5, 0);
        Check.act("ZERO 3 times", x, () -> x.power(5, 3, 1, 5), 0, 5, "-");
        Check.act("by X and into the modulus", x, () -> x.power(1, 7, 0, 0), 1, 0, "0");
        Check.refused("a modulus of degree 0", x, () -> x.power(1, 2, 2, 5));
        Check.refused("a modulus that is ZERO", x, () -> x.power(1, 2, 5, 5));
        Check.refused("a modulus of degree 32", x, () -> x.power(1, 2, 4, 5));
        x.mono(5, 13);
        Check.refused("a modulus of degree 13", x, () -> x.power(1, 0, 5, 5));
        Check.throwsArgument("-1 times", x, () -> x.power(1, -1, 1, 5));
        Check.throwsArgument("256 times, before the modulus is refused", x, () -> x.power(1, 256, 5, 5));
        Carryfree y = Check.with(2, 0b10011);
        for (int no : NO_CELLS) {
            Check.throwsIndex("power(" + no + ", 1, 1, 1)", y, () -> y.power(no, 1, 1, 1));
            Check.throwsIndex("power(1, 1, " + no + ", 1)", y, () -> y.power(1, 1, no, 1));
            Check.throwsIndex("power(1, 1, 1, " + no + ")", y, () -> y.power(1, 1, 1, no));
            Check.throwsIndex("power(1, 256, 5, " + no + ")", y, () -> y.power(1, 256, 5, no));
        }
    }

    private static void nth() {
        Carryfree x = new Carryfree();
        Check.act("X", x, () -> x.nth(1, 0, 0), 1, 0, "1");
        Check.act("X and ONE", x, () -> x.nth(1, 1, 0), 1, 0, "1 0");
        Check.act("the only one of degree 2", x, () -> x.nth(2, 0, 0), 1, 0, "2 1 0");
        Check.act("the same again", x, () -> x.nth(2, 0, 0), 0, 0, "2 1 0");
        Check.act("the last one of degree 3", x, () -> x.nth(3, 1, 0), 1, 0, "3 2 0");
        Check.act("the first one of degree 8", x, () -> x.nth(8, 0, 0), 1, 0, "8 4 3 1 0");
        for (int degree = 1; degree <= 8; degree++) {
            int d = degree;
            Check.same("the last one of " + d, x.nth(d, HOW_MANY[d] - 1, 1), 1);
            Check.same("its rank", x.rank(1), HOW_MANY[d] - 1);
            Check.refused("behind the last one of " + d, x, () -> x.nth(d, HOW_MANY[d], 0));
            Check.refused("rank 40 of " + d, x, () -> x.nth(d, 40, 0));
        }
        Carryfree y = Check.with(5, 6);
        Check.throwsArgument("degree 0", y, () -> y.nth(0, 0, 0));
        Check.throwsArgument("degree 9", y, () -> y.nth(9, 0, 0));
        Check.throwsArgument("rank -1", y, () -> y.nth(8, -1, 0));
        Check.throwsArgument("rank 41, though there are not so many", y, () -> y.nth(8, 41, 0));
        for (int no : NO_CELLS) {
            Check.throwsIndex("nth(8, 0, " + no + ")", y, () -> y.nth(8, 0, no));
            Check.throwsIndex("nth(9, 41, " + no + ")", y, () -> y.nth(9, 41, no));
            Check.throwsIndex("nth(8, 40, " + no + ")", y, () -> y.nth(8, 40, no));
        }
    }

    private static void field() {
        Carryfree x = new Carryfree();
        Check.act("field 1", x, () -> x.field(1, 0), 1, 0, "2 1");
        Check.act("field 1 again", x, () -> x.field(1, 0), 0, 0, "2 1");
        Check.act("field 2", x, () -> x.field(2, 0), 1, 0, "4 1");
        Check.act("field 3", x, () -> x.field(3, 0), 1, 0, "8 1");
        Check.act("field 4", x, () -> x.field(4, 0), 1, 0, "16 1");
        Check.act("field 5", x, () -> x.field(5, 0), 1, 0, "32 1");
        Check.throwsArgument("field 0", x, () -> x.field(0, 0));
        Check.throwsArgument("field 6", x, () -> x.field(6, 0));
        for (int no : NO_CELLS) {
            Check.throwsIndex("field(1, " + no + ")", x, () -> x.field(1, no));
            Check.throwsIndex("field(6, " + no + ")", x, () -> x.field(6, no));
        }
    }

    private static void again() {
        Carryfree x = Check.with(TOP + 0x80000001L, 0, 35);
        for (int radix = 2; radix <= 36; radix++) {
            int r = radix;
            x.put(5, 1);
            Check.act("again in " + r, x, () -> x.again(0, r, 5), 1, 5, "32 31 0");
        }
        Check.act("ZERO again", x, () -> x.again(1, 7, 5), 1, 5, "-");
        Check.act("into itself", x, () -> x.again(2, 36, 2), 0, 2, "5 1 0");
        Carryfree y = Check.with(35);
        Check.throwsArgument("radix 1", y, () -> y.again(0, 1, 0));
        Check.throwsArgument("radix 37", y, () -> y.again(0, 37, 0));
        Check.throwsArgument("radix 0", y, () -> y.again(0, 0, 0));
        for (int no : NO_CELLS) {
            Check.throwsIndex("again(" + no + ", 2, 0)", y, () -> y.again(no, 2, 0));
            Check.throwsIndex("again(0, 2, " + no + ")", y, () -> y.again(0, 2, no));
            Check.throwsIndex("again(0, 1, " + no + ")", y, () -> y.again(0, 1, no));
        }
    }

    private static int irreducibleOf(long number) {
        return Check.with(number).irreducible(0);
    }

    private static void irreducible() {
        Check.same("ZERO", irreducibleOf(0), 0);
        Check.same("ONE", irreducibleOf(1), 0);
        Check.same("X", irreducibleOf(2), 1);
        Check.same("X and ONE", irreducibleOf(3), 1);
        Check.same("a square", irreducibleOf(5), 0);
        Check.same("X2, X and ONE", irreducibleOf(7), 1);
        Check.same("the square of that", irreducibleOf(21), 0);
        Check.same("two of degree 3", irreducibleOf(0b1111111), 0);
        Check.same("of degree 12", irreducibleOf(0b1000001010011), 1);
        // 1000011 by 1001001, which have no lesser parts: no part is found below half of the degree.
        Check.same("the product of two of degree 6", irreducibleOf(0b1001010011011), 0);
        Check.same("the greatest number of degree 12", irreducibleOf(8191), 1);
        Carryfree x = Check.with(8193, TOP + 2);
        Check.refused("degree 13", x, () -> x.irreducible(0));
        Check.refused("degree 32", x, () -> x.irreducible(1));
        for (int no : NO_CELLS) {
            Check.throwsIndex("irreducible(" + no + ")", x, () -> x.irreducible(no));
        }
    }

    private static int rankOf(long number) {
        return Check.with(number).rank(0);
    }

    private static void rank() {
        Check.same("ZERO", rankOf(0), -1);
        Check.same("ONE", rankOf(1), -1);
        Check.same("X", rankOf(2), 0);
        Check.same("X and ONE", rankOf(3), 1);
        Check.same("X2", rankOf(4), -1);
        Check.same("11001, the second one of degree 4", rankOf(0b11001), 1);
        Check.same("the last one of degree 8", rankOf(505), 29);
        Check.same("what has no rank, of degree 8", rankOf(511), -1);
        Carryfree x = Check.with(512, TOP, 0b1000010001);
        Check.refused("degree 9", x, () -> x.rank(0));
        Check.refused("degree 32", x, () -> x.rank(1));
        Check.refused("an irreducible one of degree 9", x, () -> x.rank(2));
        for (int no : NO_CELLS) {
            Check.throwsIndex("rank(" + no + ")", x, () -> x.rank(no));
        }
    }

    private static String factorsOf(long number) {
        return Check.with(number).factors(0);
    }

    private static void factors() {
        Check.same("of ONE", factorsOf(1), "");
        Check.same("of X", factorsOf(2), "2");
        Check.same("of X8", factorsOf(256), "2 2 2 2 2 2 2 2");
        Check.same("of X8 and ONE", factorsOf(257), "3 3 3 3 3 3 3 3");
        Check.same("of an irreducible one", factorsOf(283), "283");
        Check.same("of 111111111", factorsOf(511), "7 73");
        Check.same("of X8 and X", factorsOf(258), "2 3 11 13");
        Check.same("of a square of degree 8", factorsOf(0b101010101), "31 31");
        Carryfree x = Check.with(0, 512, TOP);
        Check.refused("of ZERO", x, () -> x.factors(0));
        Check.refused("of degree 9", x, () -> x.factors(1));
        Check.refused("of degree 32", x, () -> x.factors(2));
        for (int no : NO_CELLS) {
            Check.throwsIndex("factors(" + no + ")", x, () -> x.factors(no));
        }
    }

    private static int periodOf(long number) {
        return Check.with(number).period(0);
    }

    private static void period() {
        Check.same("of X and ONE", periodOf(3), 1);
        Check.same("of X2 and ONE", periodOf(5), 2);
        Check.same("of X2, X and ONE", periodOf(7), 3);
        Check.same("of X8 and ONE", periodOf(257), 8);
        Check.same("of 100011011", periodOf(283), 51);
        Check.same("of 100011101", periodOf(285), 255);
        Carryfree x = Check.with(0, 1, 2, 513, TOP + 1, 256);
        for (int cell = 0; cell <= 5; cell++) {
            int c = cell;
            Check.refused("of " + x.text(c), x, () -> x.period(c));
        }
        for (int no : NO_CELLS) {
            Check.throwsIndex("period(" + no + ")", x, () -> x.period(no));
        }
    }

    private static void many() {
        Carryfree x = new Carryfree();
        for (int degree = 1; degree <= 8; degree++) {
            Check.same("many(" + degree + ")", x.many(degree), HOW_MANY[degree]);
        }
        for (int no : new int[] {0, 9, -1, Integer.MIN_VALUE, Integer.MAX_VALUE}) {
            Check.throwsArgument("many(" + no + ")", x, () -> x.many(no));
        }
    }

    private static void formula() {
        Carryfree x = new Carryfree();
        for (int degree = 1; degree <= 8; degree++) {
            Check.same("formula(" + degree + ")", x.formula(degree), HOW_MANY[degree]);
        }
        for (int no : new int[] {0, 9, -1, Integer.MIN_VALUE, Integer.MAX_VALUE}) {
            Check.throwsArgument("formula(" + no + ")", x, () -> x.formula(no));
        }
    }
}
