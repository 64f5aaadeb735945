import java.util.function.Supplier;

/** What the tests of single sentences share. Each object gets far less than 512 calls. */
final class Edges {
    static final long TOP = 1L << 32;
    /** 1 at every place there is. */
    static final long FULL = 2 * TOP - 1;
    static final String FULL_TEXT =
        "32 31 30 29 28 27 26 25 24 23 22 21 20 19 18 17 16 15 14 13 12 11 10 9 8 7 6 5 4 3 2 1 0";

    static final String NO_CELL = "Throws `IndexOutOfBoundsException` if a CELL that is told is not 0 to 5";
    static final String ANOTHER = "Returns 1 if another POLY was in INTO, 0 if the same was";
    static final String DEGREE_ABOVE = "REFUSED, if its DEGREE is above 32.";
    static final String BY_ZERO = "REFUSED, if the second one is ZERO.";
    static final String OR_THE_SAME = "- `second`: a CELL, or the same";

    private static final int[] NO_CELLS = {-1, 6, Integer.MIN_VALUE, Integer.MAX_VALUE};

    private Edges() {
    }

    interface Call {
        Object on(Carryfree x, int number);
    }

    static String noNumber(String rule) {
        return "Throws `IllegalArgumentException` if " + rule;
    }

    /** Cells that all have another polynomial, and with which nothing is refused that has two of them. */
    static Carryfree someCells() {
        return Check.with(0b1011, 0b111, 0b10, 0b10000, 0b101, 1);
    }

    /** One call for each place at which a cell is told: there 0 to 5 are let, and no others. */
    static void cells(Call... calls) {
        for (int k = 0; k < calls.length; k++) {
            Call call = calls[k];
            for (int cell = 0; cell <= 5; cell++) {
                int good = cell;
                Carryfree x = someCells();
                Check.throwsNothing("told cell " + k + " as " + cell, () -> call.on(x, good));
            }
            for (int no : NO_CELLS) {
                Carryfree x = someCells();
                Check.throwsIndex("told cell " + k + " as " + no, x, () -> call.on(x, no));
            }
        }
    }

    /** All from least to greatest is let, and nothing beside it. */
    static void numbers(int least, int greatest, Call call) {
        for (int number = least; number <= greatest; number++) {
            int good = number;
            Carryfree x = someCells();
            Check.throwsNothing("the number " + number, () -> call.on(x, good));
        }
        // Some are those that a shift, or a narrower type, would take for a good one.
        int[] others = {least - 1, greatest + 1, least - 64, least + 64 * 4, least + (1 << 16), least - (1 << 16),
            Integer.MIN_VALUE, Integer.MIN_VALUE + least, Integer.MAX_VALUE};
        for (int no : others) {
            Carryfree x = someCells();
            Check.throwsArgument("the number " + no, x, () -> call.on(x, no));
        }
    }

    /** The act always puts the same into the cell: 1 where that had another digit, at any edge. */
    static void another(Carryfree x, int into, Supplier<Object> act) {
        act.get();
        String due = x.text(into);
        Check.act("the same was there", x, act, 0, into, due);
        for (int place : new int[] {0, 1, 31, 32}) {
            x.flip(into, place);
            Check.act("another one was there, at " + place, x, act, 1, into, due);
            Check.act("and now the same", x, act, 0, into, due);
        }
    }

    /** What each digit of the text tells, from the place 0 on. */
    static long number(String text) {
        long number = 0;
        for (String place : text.equals("-") ? new String[0] : text.split(" ")) {
            number |= 1L << Integer.parseInt(place);
        }
        return number;
    }
}
