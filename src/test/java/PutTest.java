/** Promises 2 to 9: what puts something into a cell without reckoning. */
public final class PutTest {
    private static final int[] NO_CELLS = {-1, 6, Integer.MIN_VALUE, Integer.MAX_VALUE};
    private static final long TOP = 1L << 32;

    private PutTest() {
    }

    public static void main(String[] args) {
        put();
        mono();
        digit();
        flip();
        copy();
        swap();
        end();
        join();
        Check.finish("PutTest");
    }

    private static void put() {
        Carryfree x = new Carryfree();
        Check.act("put 0 where 0 is", x, () -> x.put(0, 0), 0, 0, "-");
        Check.act("put 11", x, () -> x.put(0, 11), 1, 0, "3 1 0");
        Check.act("put 11 again", x, () -> x.put(0, 11), 0, 0, "3 1 0");
        Check.act("put the sign digit", x, () -> x.put(5, Integer.MIN_VALUE), 1, 5, "31");
        Check.act("put the greatest int", x, () -> x.put(5, Integer.MAX_VALUE - (1 << 30) - 0xFFFFFF), 1, 5,
            "29 28 27 26 25 24");
        x.mono(1, 32);
        Check.act("put takes the place 32 away", x, () -> x.put(1, 0), 1, 1, "-");
        x.mono(1, 32);
        x.flip(1, 0);
        Check.act("put with another digit at 32 alone", x, () -> x.put(1, 1), 1, 1, "0");
        x.put(2, -1);
        Check.same("put -1 has no place 32", x.at(2, 32), false);
        Check.same("put -1 has 32 ones", x.weight(2), 32);
        for (int no : NO_CELLS) {
            Check.throwsIndex("put(" + no + ")", x, () -> x.put(no, 1));
        }
    }

    private static void mono() {
        Carryfree x = Check.with(5);
        Check.act("mono 0", x, () -> x.mono(0, 0), 1, 0, "0");
        Check.act("mono 0 again", x, () -> x.mono(0, 0), 0, 0, "0");
        Check.act("mono 31", x, () -> x.mono(0, 31), 1, 0, "31");
        Check.act("mono 32", x, () -> x.mono(0, 32), 1, 0, "32");
        Check.throwsArgument("mono 33", x, () -> x.mono(0, 33));
        Check.throwsArgument("mono -1", x, () -> x.mono(0, -1));
        Check.throwsArgument("mono 64", x, () -> x.mono(0, 64));
        for (int no : NO_CELLS) {
            Check.throwsIndex("mono(" + no + ")", x, () -> x.mono(no, 3));
            Check.throwsIndex("mono(" + no + ", 33)", x, () -> x.mono(no, 33));
        }
    }

    private static void digit() {
        Carryfree x = Check.with(5);
        Check.act("digit 2 stays 1", x, () -> x.digit(0, 2, true), true, 0, "2 0");
        Check.act("digit 2 becomes 0", x, () -> x.digit(0, 2, false), true, 0, "0");
        Check.act("digit 2 stays 0", x, () -> x.digit(0, 2, false), false, 0, "0");
        Check.act("digit 32 becomes 1", x, () -> x.digit(0, 32, true), false, 0, "32 0");
        Check.act("digit 31 becomes 1", x, () -> x.digit(0, 31, true), false, 0, "32 31 0");
        Check.act("digit 32 becomes 0", x, () -> x.digit(0, 32, false), true, 0, "31 0");
        Check.throwsArgument("digit 33", x, () -> x.digit(0, 33, true));
        Check.throwsArgument("digit -1", x, () -> x.digit(0, -1, true));
        for (int no : NO_CELLS) {
            Check.throwsIndex("digit(" + no + ")", x, () -> x.digit(no, 3, true));
            Check.throwsIndex("digit(" + no + ", -1)", x, () -> x.digit(no, -1, true));
        }
    }

    private static void flip() {
        Carryfree x = Check.with(5);
        Check.act("flip 0", x, () -> x.flip(0, 0), false, 0, "2");
        Check.act("flip 0 back", x, () -> x.flip(0, 0), true, 0, "2 0");
        Check.act("flip 32", x, () -> x.flip(0, 32), true, 0, "32 2 0");
        Check.act("flip 32 back", x, () -> x.flip(0, 32), false, 0, "2 0");
        Check.throwsArgument("flip 33", x, () -> x.flip(0, 33));
        Check.throwsArgument("flip -1", x, () -> x.flip(0, -1));
        for (int no : NO_CELLS) {
            Check.throwsIndex("flip(" + no + ")", x, () -> x.flip(no, 0));
            Check.throwsIndex("flip(" + no + ", 33)", x, () -> x.flip(no, 33));
        }
    }

    private static void copy() {
        Carryfree x = Check.with(TOP + 3, 7);
        Check.act("copy 0 to 1", x, () -> x.copy(0, 1), 1, 1, "32 1 0");
        Check.same("what was copied stays", x.text(0), "32 1 0");
        Check.act("copy 0 to 1 again", x, () -> x.copy(0, 1), 0, 1, "32 1 0");
        Check.act("copy 0 to 0", x, () -> x.copy(0, 0), 0, 0, "32 1 0");
        for (int no : NO_CELLS) {
            Check.throwsIndex("copy(" + no + ", 0)", x, () -> x.copy(no, 0));
            Check.throwsIndex("copy(0, " + no + ")", x, () -> x.copy(0, no));
        }
    }

    private static void swap() {
        Carryfree x = Check.with(TOP + 3, 7, 7);
        Check.act("swap 0 and 1", x, () -> x.swap(0, 1), 1, 0, "2 1 0");
        Check.same("the other one after swap", x.text(1), "32 1 0");
        Check.act("swap two that have the same", x, () -> x.swap(0, 2), 0, 2, "2 1 0");
        Check.act("swap 1 with itself", x, () -> x.swap(1, 1), 0, 1, "32 1 0");
        for (int no : NO_CELLS) {
            Check.throwsIndex("swap(" + no + ", 0)", x, () -> x.swap(no, 0));
            Check.throwsIndex("swap(0, " + no + ")", x, () -> x.swap(0, no));
        }
    }

    private static void end() {
        Carryfree x = Check.with(6, 9, TOP);
        Check.act("the greater of 6 and 9", x, () -> x.end(0, 1, true, 3), 1, 3, "3 0");
        Check.act("the greater of 9 and 6", x, () -> x.end(1, 0, true, 3), 0, 3, "3 0");
        Check.act("the lesser of 6 and 9", x, () -> x.end(0, 1, false, 3), 1, 3, "2 1");
        x.put(4, -1);
        Check.act("the greater one has the place 32", x, () -> x.end(2, 4, true, 5), 1, 5, "32");
        Check.act("the greater one is not that of more ones", x, () -> x.end(4, 2, true, 5), 0, 5, "32");
        x.put(5, 1);
        Check.act("the lesser one, its sign digit not minus", x, () -> x.end(4, 5, false, 4), 1, 4, "0");
        Check.act("into one that is told", x, () -> x.end(0, 1, true, 0), 1, 0, "3 0");
        Check.act("of one alone", x, () -> x.end(2, 2, false, 2), 0, 2, "32");
        for (int no : NO_CELLS) {
            Check.throwsIndex("end(" + no + ", 0, 0)", x, () -> x.end(no, 0, true, 0));
            Check.throwsIndex("end(0, " + no + ", 0)", x, () -> x.end(0, no, true, 0));
            Check.throwsIndex("end(0, 0, " + no + ")", x, () -> x.end(0, 0, true, no));
        }
    }

    private static void join() {
        Carryfree x = Check.with(TOP + 12, TOP + 10);
        Check.act("just one of both", x, () -> x.join(0, 1, 0, 2), 1, 2, "2 1");
        Check.act("both", x, () -> x.join(0, 1, 1, 2), 1, 2, "32 3");
        Check.act("one or both", x, () -> x.join(0, 1, 2, 2), 1, 2, "32 3 2 1");
        Check.act("the first and not the second", x, () -> x.join(0, 1, 3, 2), 1, 2, "2");
        Check.act("the other one and not the one", x, () -> x.join(1, 0, 3, 2), 1, 2, "1");
        Check.act("the same again", x, () -> x.join(1, 0, 3, 2), 0, 2, "1");
        Check.act("one with itself", x, () -> x.join(0, 0, 0, 0), 1, 0, "-");
        Check.throwsArgument("join how 4", x, () -> x.join(0, 1, 4, 2));
        Check.throwsArgument("join how -1", x, () -> x.join(0, 1, -1, 2));
        for (int no : NO_CELLS) {
            Check.throwsIndex("join(" + no + ", 0, 0, 0)", x, () -> x.join(no, 0, 0, 0));
            Check.throwsIndex("join(0, " + no + ", 0, 0)", x, () -> x.join(0, no, 0, 0));
            Check.throwsIndex("join(0, 0, 0, " + no + ")", x, () -> x.join(0, 0, 0, no));
            Check.throwsIndex("join(0, 0, 4, " + no + ")", x, () -> x.join(0, 0, 4, no));
        }
    }
}
