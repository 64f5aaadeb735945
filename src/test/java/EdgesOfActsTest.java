/** Each sentence of the promises 1 to 25 has a test of its own here. */
public final class EdgesOfActsTest {
    private static final long TOP = Edges.TOP;
    private static final long FULL = Edges.FULL;
    private static final int[] HOW_MANY = {0, 2, 1, 2, 3, 6, 9, 18, 30};
    private static final String NO_PLACE = Edges.noNumber("place is not 0 to 32");

    private EdgesOfActsTest() {
    }

    public static void main(String[] args) {
        newObject();
        put();
        mono();
        digit();
        flip();
        copy();
        swap();
        end();
        join();
        times();
        square();
        shift();
        quotient();
        rest();
        gcd();
        lcm();
        bezout();
        derive();
        root();
        turn();
        move();
        power();
        nth();
        field();
        again();
        Sentences.doneFrom(1, 25);
        Check.finish("EdgesOfActsTest");
    }

    private static void newObject() {
        Sentences.ofPromise(1).says("Creates six CELLS with ZERO.", () -> {
            Carryfree x = new Carryfree();
            for (int cell = 0; cell <= 5; cell++) {
                Check.same("a new cell", x.text(cell), "-");
            }
            Check.same("cells with ZERO", x.house(3), 6);
            Check.same("acts, refusals, knocks", x.house(0) + x.house(1) + x.house(2), 0);
            Check.throwsIndex("there is no seventh", x, () -> x.text(6));
        }).done();
    }

    private static void put() {
        Sentences.ofPromise(2).says("A POLY of DEGREE 31 at most is told by its digits.", () -> {
            Carryfree x = Check.with(TOP, FULL);
            Check.act("all digits", x, () -> x.put(0, -1), 1, 0, Edges.FULL_TEXT.substring("32 ".length()));
            Check.act("none", x, () -> x.put(1, 0), 1, 1, "-");
        }).says("- `digits`: those at the PLACES 0 to 31, as the 32 binary digits of an int "
            + "(that of the PLACE 31 is its sign digit)", () -> {
            Carryfree x = new Carryfree();
            for (int place = 0; place <= 31; place++) {
                int p = place;
                Check.act("the digit " + p, x, () -> x.put(3, 1 << p), 1, 3, Integer.toString(p));
            }
            Check.act("the sign digit", x, () -> x.put(2, Integer.MIN_VALUE), 1, 2, "31");
            Check.act("all but the sign digit", x, () -> x.put(2, Integer.MAX_VALUE), 1, 2,
                Edges.FULL_TEXT.substring("32 31 ".length()));
            Check.act("the sign digit and that of 0", x, () -> x.put(2, Integer.MIN_VALUE + 1), 1, 2, "31 0");
        }).says(Edges.ANOTHER, () -> {
            Carryfree x = new Carryfree();
            Check.act("ZERO was in a new one", x, () -> x.put(5, 0), 0, 5, "-");
            Edges.another(x, 4, () -> x.put(4, -1));
            Edges.another(x, 5, () -> x.put(5, 0));
        }).says(Edges.NO_CELL, () -> Edges.cells((x, cell) -> x.put(cell, 9))).done();
    }

    private static void mono() {
        Sentences.ofPromise(3).says("A POLY has 1 at one PLACE alone.", () -> {
            for (int place = 0; place <= 32; place++) {
                int p = place;
                Carryfree x = Check.with(0, 0, FULL);
                Check.act("into ZERO, at " + p, x, () -> x.mono(0, p), 1, 0, Integer.toString(p));
                Check.act("into one that is full, at " + p, x, () -> x.mono(2, p), 1, 2, Integer.toString(p));
            }
        }).says(Edges.ANOTHER, () -> {
            Carryfree x = new Carryfree();
            Edges.another(x, 3, () -> x.mono(3, 0));
            Edges.another(x, 3, () -> x.mono(3, 32));
        }).says(Edges.NO_CELL, () -> Edges.cells((x, cell) -> x.mono(cell, 9)))
            .says(NO_PLACE, () -> Edges.numbers(0, 32, (x, place) -> x.mono(3, place))).done();
    }

    private static void digit() {
        Sentences.ofPromise(4).says("A digit is told.", () -> {
            for (int place = 0; place <= 32; place++) {
                int p = place;
                Carryfree x = Check.with(FULL, 0);
                x.digit(0, p, false);
                Check.same("full but for " + p, Edges.number(x.text(0)), FULL - (1L << p));
                x.digit(1, p, true);
                Check.same("ZERO but for " + p, Edges.number(x.text(1)), 1L << p);
            }
        }).says("- `is`: whether it is 1 from now on", () -> {
            Carryfree x = Check.with(5);
            Check.act("1 stays", x, () -> x.digit(0, 2, true), true, 0, "2 0");
            Check.act("1 goes", x, () -> x.digit(0, 2, false), true, 0, "0");
            Check.act("0 stays", x, () -> x.digit(0, 2, false), false, 0, "0");
            Check.act("1 comes", x, () -> x.digit(0, 32, true), false, 0, "32 0");
        }).says("Returns whether it was 1.", () -> {
            for (int place = 0; place <= 32; place++) {
                Carryfree x = Check.with(FULL, 0, FULL, 0);
                Check.same("1 was there, and goes", x.digit(0, place, false), true);
                Check.same("0 was there, and 1 comes", x.digit(1, place, true), false);
                Check.same("1 was there, and stays", x.digit(2, place, true), true);
                Check.same("0 was there, and stays", x.digit(3, place, false), false);
            }
        }).says(Edges.NO_CELL, () -> Edges.cells((x, cell) -> x.digit(cell, 9, true)))
            .says(NO_PLACE, () -> {
                Edges.numbers(0, 32, (x, place) -> x.digit(3, place, true));
                Edges.numbers(0, 32, (x, place) -> x.digit(3, place, false));
            }).done();
    }

    private static void flip() {
        Sentences.ofPromise(5).says("A digit becomes the other one.", () -> {
            for (int place = 0; place <= 32; place++) {
                Carryfree x = Check.with(FULL, 0);
                x.flip(0, place);
                Check.same("full but for " + place, Edges.number(x.text(0)), FULL - (1L << place));
                x.flip(1, place);
                Check.same("ZERO but for " + place, Edges.number(x.text(1)), 1L << place);
                x.flip(1, place);
                Check.same("twice", x.text(1), "-");
            }
        }).says("Returns whether it is 1 then.", () -> {
            for (int place = 0; place <= 32; place++) {
                Carryfree x = Check.with(FULL, 0);
                Check.same("1 was at " + place, x.flip(0, place), false);
                Check.same("0 was at " + place, x.flip(1, place), true);
            }
        }).says(Edges.NO_CELL, () -> Edges.cells((x, cell) -> x.flip(cell, 9)))
            .says(NO_PLACE, () -> Edges.numbers(0, 32, (x, place) -> x.flip(3, place))).done();
    }

    private static void copy() {
        Sentences.ofPromise(6).says("What a CELL has comes to another one, too.", () -> {
            Carryfree x = Check.with(FULL, 0, TOP);
            Check.act("one that is full", x, () -> x.copy(0, 5), 1, 5, Edges.FULL_TEXT);
            Check.same("it stays where it was", x.text(0), Edges.FULL_TEXT);
            Check.act("ZERO", x, () -> x.copy(1, 5), 1, 5, "-");
            Check.act("X32", x, () -> x.copy(2, 0), 1, 0, "32");
            Check.same("X32 stays where it was", x.text(2), "32");
            Check.act("to itself", x, () -> x.copy(2, 2), 0, 2, "32");
        }).says(Edges.ANOTHER, () -> {
            Carryfree x = Check.with(FULL);
            Edges.another(x, 1, () -> x.copy(0, 1));
            Edges.another(x, 3, () -> x.copy(2, 3));
        }).says(Edges.NO_CELL, () -> Edges.cells((x, cell) -> x.copy(cell, 0), (x, cell) -> x.copy(0, cell)))
            .done();
    }

    private static void swap() {
        Sentences.ofPromise(7).says("Two CELLS change what they have.", () -> {
            Carryfree x = Check.with(FULL, 0, 5);
            Check.act("full and ZERO", x, () -> x.swap(0, 1), 1, 0, "-");
            Check.same("the other one", x.text(1), Edges.FULL_TEXT);
            Check.act("back", x, () -> x.swap(0, 1), 1, 0, Edges.FULL_TEXT);
            Check.same("the other one, back", x.text(1), "-");
            Check.same("a third one stays", x.text(2), "2 0");
        }).says("- `other`: a CELL, or the same", () -> {
            Carryfree x = Check.with(FULL);
            Check.act("full", x, () -> x.swap(0, 0), 0, 0, Edges.FULL_TEXT);
            Check.act("ZERO", x, () -> x.swap(5, 5), 0, 5, "-");
        }).says("Returns 1 if they had unlike ones, otherwise 0.", () -> {
            for (int place = 0; place <= 32; place++) {
                int p = place;
                Carryfree x = Check.with(FULL, FULL, FULL - (1L << p));
                Check.act("the same in both", x, () -> x.swap(0, 1), 0, 0, Edges.FULL_TEXT);
                Check.act("unlike at " + p + " alone", x, () -> x.swap(1, 2), 1, 2, Edges.FULL_TEXT);
            }
        }).says(Edges.NO_CELL, () -> Edges.cells((x, cell) -> x.swap(cell, 0), (x, cell) -> x.swap(0, cell)))
            .done();
    }

    private static void end() {
        Sentences.ofPromise(8).says("The greater one of two, or the lesser one.", () -> {
            Carryfree x = Check.with(TOP, TOP - 1, 0, 1, 0x80000000L, 0x7FFFFFFFL);
            Check.act("32 against all below", x, () -> x.end(0, 1, true, 2), 1, 2, "32");
            Check.act("all below against 32", x, () -> x.end(1, 0, true, 2), 0, 2, "32");
            Check.act("31 against all below", x, () -> x.end(4, 5, true, 2), 1, 2, "31");
            Check.act("all below against 31", x, () -> x.end(5, 4, true, 2), 0, 2, "31");
            Check.act("the lesser one, ONE", x, () -> x.end(4, 3, false, 2), 1, 2, "0");
            x.put(2, 0);
            Check.act("the lesser one, ZERO", x, () -> x.end(2, 3, false, 5), 1, 5, "-");
            Check.act("the lesser one, X31", x, () -> x.end(0, 4, false, 5), 1, 5, "31");
        }).says(Edges.OR_THE_SAME, () -> {
            Carryfree x = Check.with(FULL);
            Check.act("the greater one", x, () -> x.end(0, 0, true, 1), 1, 1, Edges.FULL_TEXT);
            Check.act("the lesser one", x, () -> x.end(0, 0, false, 1), 0, 1, Edges.FULL_TEXT);
        }).says("- `isGreatest`: whether the greater one", () -> {
            Carryfree x = Check.with(6, 9);
            Check.act("is", x, () -> x.end(0, 1, true, 5), 1, 5, "3 0");
            Check.act("is not", x, () -> x.end(0, 1, false, 5), 1, 5, "2 1");
        }).says(Edges.ANOTHER, () -> {
            Carryfree x = Check.with(FULL);
            Edges.another(x, 5, () -> x.end(0, 1, true, 5));
            Edges.another(x, 5, () -> x.end(0, 1, false, 5));
        }).says(Edges.NO_CELL, () -> Edges.cells((x, cell) -> x.end(cell, 0, true, 0),
            (x, cell) -> x.end(0, cell, true, 0), (x, cell) -> x.end(0, 0, true, cell))).done();
    }

    private static void join() {
        Sentences.ofPromise(9).says("Two are joined, PLACE by PLACE.", () -> {
            for (int place = 0; place <= 32; place++) {
                int p = place;
                String text = Integer.toString(p);
                Carryfree x = Check.with(1L << p, 0);
                Check.act("just one has " + p, x, () -> x.join(0, 1, 0, 2), 1, 2, text);
                Check.act("both have " + p, x, () -> x.join(0, 0, 1, 3), 1, 3, text);
                Check.act("one has or both have " + p, x, () -> x.join(1, 0, 2, 4), 1, 4, text);
                Check.act("the first one has " + p, x, () -> x.join(0, 1, 3, 5), 1, 5, text);
            }
        }).says(Edges.OR_THE_SAME, () -> {
            Carryfree x = Check.with(FULL);
            Check.act("just one", x, () -> x.join(0, 0, 0, 1), 0, 1, "-");
            Check.act("both", x, () -> x.join(0, 0, 1, 1), 1, 1, Edges.FULL_TEXT);
            Check.act("one or both", x, () -> x.join(0, 0, 2, 1), 0, 1, Edges.FULL_TEXT);
            Check.act("the first one, and not the second", x, () -> x.join(0, 0, 3, 1), 1, 1, "-");
        }).says("- `how`: 1 where: 0 just one of both has 1 (their SUM), 1 both have, 2 one of both has, or both, "
            + "3 the first one has and the second one has not", () -> {
            Carryfree x = Check.with(0b1100, 0b1010);
            Check.act("0", x, () -> x.join(0, 1, 0, 2), 1, 2, "2 1");
            Check.act("1", x, () -> x.join(0, 1, 1, 2), 1, 2, "3");
            Check.act("2", x, () -> x.join(0, 1, 2, 2), 1, 2, "3 2 1");
            Check.act("3", x, () -> x.join(0, 1, 3, 2), 1, 2, "2");
            Check.act("3, the other way round", x, () -> x.join(1, 0, 3, 2), 1, 2, "1");
        }).says(Edges.ANOTHER, () -> {
            Carryfree x = Check.with(FULL, TOP + 1);
            for (int how = 0; how <= 3; how++) {
                int h = how;
                Edges.another(x, 5, () -> x.join(0, 1, h, 5));
            }
        }).says(Edges.NO_CELL, () -> Edges.cells((x, cell) -> x.join(cell, 0, 2, 0),
            (x, cell) -> x.join(0, cell, 2, 0), (x, cell) -> x.join(0, 0, 2, cell)))
            .says(Edges.noNumber("how is not 0 to 3"), () -> Edges.numbers(0, 3, (x, how) -> x.join(0, 1, how, 2)))
            .done();
    }

    private static void times() {
        Sentences.ofPromise(10).says("The PRODUCT of two.", () -> {
            Carryfree x = Check.with(0, 1, FULL, 3, 0b1011, 0b1101);
            Check.act("ZERO and one that is full", x, () -> x.times(0, 2, 0), 0, 0, "-");
            Check.act("ONE and one that is full", x, () -> x.times(1, 2, 0), 1, 0, Edges.FULL_TEXT);
            Check.act("two of degree 3", x, () -> x.times(4, 5, 0), 1, 0, "6 5 4 3 2 1 0");
            x.put(0, -1);
            Check.act("X and ONE, and all below 32", x, () -> x.times(0, 3, 0), 1, 0, "32 0");
        }).says(Edges.OR_THE_SAME, () -> {
            Carryfree x = Check.with(7, 1 << 16);
            Check.act("111 by itself", x, () -> x.times(0, 0, 2), 1, 2, "4 2 0");
            Check.act("X16 by itself", x, () -> x.times(1, 1, 2), 1, 2, "32");
            Check.act("ZERO by itself", x, () -> x.times(3, 3, 2), 1, 2, "-");
        }).says(Edges.ANOTHER, () -> {
            Carryfree x = Check.with(1 << 16, (1 << 16) + 1);
            Edges.another(x, 2, () -> x.times(0, 1, 2));
            Edges.another(x, 3, () -> x.times(0, 5, 3));
        }).says(Edges.DEGREE_ABOVE, () -> {
            for (int place = 0; place <= 32; place++) {
                int rest = 32 - place;
                Carryfree x = Check.with(1L << place, 1L << rest, 2L << rest & FULL, FULL);
                Check.act(place + " and " + rest, x, () -> x.times(0, 1, 5), 1, 5, "32");
                if (place > 0) {
                    Check.refused(place + " and one above " + rest, x, () -> x.times(0, 2, 5));
                    Check.refused("one above " + rest + " and " + place, x, () -> x.times(2, 0, 5));
                    Check.refused(place + " and one that is full", x, () -> x.times(0, 3, 5));
                }
            }
            Carryfree x = Check.with(TOP);
            Check.refused("a degree of 64", x, () -> x.times(0, 0, 0));
        }).says(Edges.NO_CELL, () -> Edges.cells((x, cell) -> x.times(cell, 0, 0),
            (x, cell) -> x.times(0, cell, 0), (x, cell) -> x.times(0, 0, cell))).done();
    }

    private static void square() {
        Sentences.ofPromise(11).says("The SQUARE.", () -> {
            Carryfree x = Check.with(0, 1, 2, 7, 0x1FFFF);
            Check.act("of ZERO", x, () -> x.square(0, 5), 0, 5, "-");
            Check.act("of ONE", x, () -> x.square(1, 5), 1, 5, "0");
            Check.act("of X", x, () -> x.square(2, 5), 1, 5, "2");
            Check.act("of 111", x, () -> x.square(3, 5), 1, 5, "4 2 0");
            Check.act("of one full to 16", x, () -> x.square(4, 5), 1, 5,
                "32 30 28 26 24 22 20 18 16 14 12 10 8 6 4 2 0");
        }).says(Edges.ANOTHER, () -> {
            Carryfree x = Check.with(0x10001);
            Edges.another(x, 1, () -> x.square(0, 1));
            Edges.another(x, 3, () -> x.square(2, 3));
        }).says(Edges.DEGREE_ABOVE, () -> {
            for (int place = 0; place <= 32; place++) {
                Carryfree x = Check.with(1L << place, FULL & (2L << place) - 1);
                for (int cell = 0; cell <= 1; cell++) {
                    int c = cell;
                    if (place <= 16) {
                        Check.same("of degree " + place, x.square(c, 5), 1);
                        Check.same("its degree", x.degree(5), 2 * place);
                        x.put(5, 0);
                    } else {
                        Check.refused("of degree " + place, x, () -> x.square(c, 5));
                    }
                }
            }
        }).says(Edges.NO_CELL, () -> Edges.cells((x, cell) -> x.square(cell, 0), (x, cell) -> x.square(0, cell)))
            .done();
    }

    private static void shift() {
        Sentences.ofPromise(12).says("What stands at each PLACE k comes to the PLACE k + by; "
            + "what would come to one below 0 goes.", () -> {
            for (int by = -32; by <= 32; by++) {
                int b = by;
                for (int place = 0; place <= 32; place++) {
                    Carryfree x = Check.with(1L << place);
                    if (place + by <= 32) {
                        String due = place + by < 0 ? "-" : Integer.toString(place + by);
                        Check.act(place + " by " + by, x, () -> x.shift(0, b, 5), due.equals("-") ? 0 : 1, 5, due);
                    }
                }
                Carryfree x = Check.with(FULL);
                if (by <= 0) {
                    x.shift(0, by, 5);
                    Check.same("a full one by " + by, Edges.number(x.text(5)), FULL >> -by);
                }
            }
        }).says("- `by`: by how much", () -> {
            Carryfree x = Check.with(TOP + 0b1010, 0b1010);
            Check.act("by 0", x, () -> x.shift(0, 0, 5), 1, 5, "32 3 1");
            Check.act("by -1", x, () -> x.shift(0, -1, 5), 1, 5, "31 2 0");
            Check.act("by -2: the lowest one goes", x, () -> x.shift(0, -2, 5), 1, 5, "30 1");
            Check.act("by -32", x, () -> x.shift(0, -32, 5), 1, 5, "0");
            Check.act("by 29", x, () -> x.shift(1, 29, 5), 1, 5, "32 30");
        }).says(Edges.ANOTHER, () -> {
            Carryfree x = Check.with(FULL, 1);
            Edges.another(x, 5, () -> x.shift(0, -1, 5));
            Edges.another(x, 5, () -> x.shift(1, 32, 5));
            Edges.another(x, 5, () -> x.shift(1, -32, 5));
        }).says("REFUSED, if the DEGREE would be above 32.", () -> {
            for (int place = 1; place <= 32; place++) {
                int p = place;
                Carryfree x = Check.with(1L << p, FULL & (2L << p) - 1, 0);
                Check.act("just to 32", x, () -> x.shift(0, 32 - p, 5), 1, 5, "32");
                Check.refused(p + " to 33", x, () -> x.shift(0, 33 - p, 5));
                Check.refused("all to " + p + ", by 32", x, () -> x.shift(1, 32, 5));
                Check.act("ZERO is never refused", x, () -> x.shift(2, p, 2), 0, 2, "-");
            }
            Carryfree x = Check.with(1, 0);
            Check.act("ONE by 32", x, () -> x.shift(0, 32, 5), 1, 5, "32");
            Check.act("ZERO by 32", x, () -> x.shift(1, 32, 5), 1, 5, "-");
        }).says(Edges.NO_CELL, () -> Edges.cells((x, cell) -> x.shift(cell, 1, 0), (x, cell) -> x.shift(0, 1, cell)))
            .says(Edges.noNumber("by is not -32 to 32"), () -> Edges.numbers(-32, 32, (x, by) -> x.shift(1, by, 2)))
            .done();
    }

    private static void quotient() {
        Sentences.ofPromise(13).says("The QUOTIENT of the first one by the second one.", () -> {
            // 1110110 is 1011 by 1100, and 10010, which goes on: see rest().
            Carryfree x = Check.with(0b1110110, 0b1011, TOP + 1, 3, 1, TOP);
            Check.act("seven places by four", x, () -> x.quotient(0, 1, 0), 1, 0, "3 2");
            Check.act("of a lesser degree", x, () -> x.quotient(3, 1, 0), 1, 0, "-");
            Check.act("X32 and ONE by X and ONE", x, () -> x.quotient(2, 3, 0), 1, 0,
                Edges.FULL_TEXT.substring("32 ".length()));
            Check.act("of the same degree", x, () -> x.quotient(2, 5, 0), 1, 0, "0");
            Check.act("by ONE", x, () -> x.quotient(2, 4, 0), 1, 0, "32 0");
            Check.act("ONE by X32", x, () -> x.quotient(4, 5, 0), 1, 0, "-");
            Check.act("ZERO by one", x, () -> x.quotient(0, 5, 0), 0, 0, "-");
        }).says(Edges.OR_THE_SAME, () -> {
            Carryfree x = Check.with(FULL, 1);
            Check.act("a full one by itself", x, () -> x.quotient(0, 0, 5), 1, 5, "0");
            Check.act("ONE by itself", x, () -> x.quotient(1, 1, 5), 0, 5, "0");
        }).says(Edges.ANOTHER, () -> {
            Carryfree x = Check.with(FULL, 1, 2);
            Edges.another(x, 5, () -> x.quotient(0, 1, 5));
            Edges.another(x, 5, () -> x.quotient(1, 2, 5));
        }).says(Edges.BY_ZERO, () -> {
            Carryfree x = Check.with(FULL, 0, 1, 0);
            Check.refused("a full one", x, () -> x.quotient(0, 1, 5));
            Check.refused("ONE", x, () -> x.quotient(2, 1, 5));
            Check.refused("ZERO", x, () -> x.quotient(3, 1, 5));
            Check.refused("ZERO by itself", x, () -> x.quotient(1, 1, 1));
        }).says(Edges.NO_CELL, () -> Edges.cells((x, cell) -> x.quotient(cell, 0, 0),
            (x, cell) -> x.quotient(0, cell, 0), (x, cell) -> x.quotient(0, 0, cell))).done();
    }

    private static void rest() {
        Sentences.ofPromise(14).says("The REST of the first one by the second one.", () -> {
            Carryfree x = Check.with(0b1110110, 0b1011, TOP, 0b100101, 1, FULL);
            Check.act("seven places by four", x, () -> x.rest(0, 1, 0), 1, 0, "1");
            Check.act("of a lesser degree", x, () -> x.rest(1, 3, 0), 1, 0, "3 1 0");
            Check.act("X32 by one of the period 31", x, () -> x.rest(2, 3, 0), 1, 0, "1");
            Check.act("of the same degree", x, () -> x.rest(5, 2, 0), 1, 0, Edges.FULL_TEXT.substring("32 ".length()));
            Check.act("by ONE", x, () -> x.rest(5, 4, 0), 1, 0, "-");
            Check.act("ZERO by one", x, () -> x.rest(0, 5, 0), 0, 0, "-");
            Check.act("ONE by X32", x, () -> x.rest(4, 2, 0), 1, 0, "0");
        }).says(Edges.OR_THE_SAME, () -> {
            Carryfree x = Check.with(FULL, 1, 0, 0, 0, 1);
            Check.act("a full one by itself", x, () -> x.rest(0, 0, 5), 1, 5, "-");
            Check.act("ONE by itself", x, () -> x.rest(1, 1, 5), 0, 5, "-");
        }).says(Edges.ANOTHER, () -> {
            Carryfree x = Check.with(FULL, TOP, 1);
            Edges.another(x, 5, () -> x.rest(0, 1, 5));
            Edges.another(x, 5, () -> x.rest(1, 2, 5));
        }).says(Edges.BY_ZERO, () -> {
            Carryfree x = Check.with(FULL, 0, 1, 0);
            Check.refused("a full one", x, () -> x.rest(0, 1, 5));
            Check.refused("ONE", x, () -> x.rest(2, 1, 5));
            Check.refused("ZERO", x, () -> x.rest(3, 1, 5));
            Check.refused("ZERO by itself", x, () -> x.rest(1, 1, 1));
        }).says(Edges.NO_CELL, () -> Edges.cells((x, cell) -> x.rest(cell, 0, 0),
            (x, cell) -> x.rest(0, cell, 0), (x, cell) -> x.rest(0, 0, cell))).done();
    }

    private static void gcd() {
        Sentences.ofPromise(15).says("The GCD of two.", () -> {
            Carryfree x = Check.with(0b1001, 0b10001, 0, FULL, TOP, 1);
            Check.act("X3 and ONE, X4 and ONE", x, () -> x.gcd(0, 1, 5), 1, 5, "1 0");
            Check.act("turned about", x, () -> x.gcd(1, 0, 5), 0, 5, "1 0");
            Check.act("a full one and ZERO", x, () -> x.gcd(3, 2, 5), 1, 5, Edges.FULL_TEXT);
            Check.act("ZERO and X32", x, () -> x.gcd(2, 4, 5), 1, 5, "32");
            Check.act("without a common part", x, () -> x.gcd(3, 4, 5), 1, 5, "0");
            Check.act("ONE and a full one", x, () -> x.gcd(5, 3, 0), 1, 0, "0");
        }).says(Edges.OR_THE_SAME, () -> {
            Carryfree x = Check.with(FULL, 0, 1);
            Check.act("a full one", x, () -> x.gcd(0, 0, 5), 1, 5, Edges.FULL_TEXT);
            Check.act("ZERO", x, () -> x.gcd(1, 1, 5), 1, 5, "-");
            Check.act("ONE", x, () -> x.gcd(2, 2, 5), 1, 5, "0");
        }).says(Edges.ANOTHER, () -> {
            Carryfree x = Check.with(FULL, TOP, 0);
            Edges.another(x, 5, () -> x.gcd(0, 1, 5));
            Edges.another(x, 5, () -> x.gcd(0, 2, 5));
            Edges.another(x, 5, () -> x.gcd(2, 2, 5));
        }).says(Edges.NO_CELL, () -> Edges.cells((x, cell) -> x.gcd(cell, 0, 0),
            (x, cell) -> x.gcd(0, cell, 0), (x, cell) -> x.gcd(0, 0, cell))).done();
    }

    private static void lcm() {
        Sentences.ofPromise(16).says("The LCM of two.", () -> {
            Carryfree x = Check.with(0b1001, 0b10001, 0, TOP, 1, 1 << 16);
            Check.act("X3 and ONE, X4 and ONE", x, () -> x.lcm(0, 1, 0), 1, 0, "6 5 4 2 1 0");
            Check.act("ZERO and one", x, () -> x.lcm(2, 3, 0), 1, 0, "-");
            Check.act("one and ZERO", x, () -> x.lcm(3, 2, 0), 0, 0, "-");
            Check.act("ONE and one", x, () -> x.lcm(4, 3, 0), 1, 0, "32");
            Check.act("X32 and X16", x, () -> x.lcm(3, 5, 1), 1, 1, "32");
        }).says(Edges.OR_THE_SAME, () -> {
            Carryfree x = Check.with(FULL, 0, 1);
            Check.act("a full one: the product of both has a degree of 64", x, () -> x.lcm(0, 0, 5), 1, 5,
                Edges.FULL_TEXT);
            Check.act("ZERO", x, () -> x.lcm(1, 1, 5), 1, 5, "-");
            Check.act("ONE", x, () -> x.lcm(2, 2, 5), 1, 5, "0");
        }).says(Edges.ANOTHER, () -> {
            Carryfree x = Check.with(FULL, 1, 0);
            Edges.another(x, 5, () -> x.lcm(0, 1, 5));
            Edges.another(x, 5, () -> x.lcm(0, 2, 5));
        }).says(Edges.DEGREE_ABOVE, () -> {
            for (int place = 1; place <= 31; place++) {
                int p = place;
                // X^p and what has 1 at the place 0 have no common part.
                Carryfree x = Check.with(1L << p, (1L << (32 - p)) + 1, (1L << (33 - p)) + 1);
                Check.same("of degree 32", x.lcm(0, 1, 5), 1);
                Check.same("at the place 32", x.at(5, 32), true);
                Check.refused("of degree 33", x, () -> x.lcm(0, 2, 5));
                Check.refused("of degree 33, turned about", x, () -> x.lcm(2, 0, 5));
            }
            Carryfree x = Check.with(TOP, FULL, 2);
            Check.refused("of degree 64", x, () -> x.lcm(0, 1, 0));
            Check.refused("of degree 33", x, () -> x.lcm(1, 2, 2));
        }).says(Edges.NO_CELL, () -> Edges.cells((x, cell) -> x.lcm(cell, 0, 0),
            (x, cell) -> x.lcm(0, cell, 0), (x, cell) -> x.lcm(0, 0, cell))).done();
    }

    private static void bezout() {
        Sentences.ofPromise(17).says("A BEZOUT one of two.", () -> {
            Carryfree x = Check.with(11, 3, 0, 19, FULL, 1);
            Check.act("the first of 1011 and 11", x, () -> x.bezout(0, 1, true, 5), 0, 5, "0");
            Check.act("the second of 1011 and 11", x, () -> x.bezout(0, 1, false, 5), 1, 5, "2 1");
            Check.act("the first of 1011 and 10011", x, () -> x.bezout(0, 3, true, 5), 1, 5, "2 0");
            Check.act("the first with ZERO", x, () -> x.bezout(4, 2, true, 5), 1, 5, "0");
            Check.act("the second with ZERO", x, () -> x.bezout(4, 2, false, 5), 1, 5, "-");
            Check.act("the first of ZERO and one", x, () -> x.bezout(2, 4, true, 5), 0, 5, "-");
            Check.act("the second of ZERO and one", x, () -> x.bezout(2, 4, false, 5), 1, 5, "0");
        }).says(Edges.OR_THE_SAME, () -> {
            Carryfree x = Check.with(FULL, 0);
            Check.act("the first of a full one", x, () -> x.bezout(0, 0, true, 5), 0, 5, "-");
            Check.act("the second of a full one", x, () -> x.bezout(0, 0, false, 5), 1, 5, "0");
            Check.act("the first of ZERO", x, () -> x.bezout(1, 1, true, 4), 1, 4, "0");
            Check.act("the second of ZERO", x, () -> x.bezout(1, 1, false, 5), 1, 5, "-");
        }).says("- `isFirst`: whether the FIRST one, otherwise the SECOND one", () -> {
            Carryfree x = Check.with(3, 11);
            Check.act("the first", x, () -> x.bezout(0, 1, true, 5), 1, 5, "2 1");
            Check.act("the second", x, () -> x.bezout(0, 1, false, 5), 1, 5, "0");
        }).says(Edges.ANOTHER, () -> {
            Carryfree x = Check.with(FULL, TOP, 0);
            Edges.another(x, 5, () -> x.bezout(0, 1, true, 5));
            Edges.another(x, 5, () -> x.bezout(0, 1, false, 5));
            Edges.another(x, 5, () -> x.bezout(0, 2, false, 5));
        }).says(Edges.NO_CELL, () -> {
            Edges.cells((x, cell) -> x.bezout(cell, 0, true, 0), (x, cell) -> x.bezout(0, cell, true, 0),
                (x, cell) -> x.bezout(0, 0, true, cell));
            Edges.cells((x, cell) -> x.bezout(cell, 0, false, 0), (x, cell) -> x.bezout(0, cell, false, 0),
                (x, cell) -> x.bezout(0, 0, false, cell));
        }).done();
    }

    private static void derive() {
        Sentences.ofPromise(18).says("What it DERIVES to.", () -> {
            for (int place = 0; place <= 32; place++) {
                Carryfree x = Check.with(1L << place);
                x.mono(5, 7);
                String due = place % 2 == 0 ? "-" : Integer.toString(place - 1);
                x.derive(0, 5);
                Check.same("what is at " + place, x.text(5), due);
            }
            Carryfree x = Check.with(FULL);
            Check.act("a full one", x, () -> x.derive(0, 5), 1, 5, "30 28 26 24 22 20 18 16 14 12 10 8 6 4 2 0");
            Check.act("ZERO", x, () -> x.derive(1, 5), 1, 5, "-");
        }).says(Edges.ANOTHER, () -> {
            Carryfree x = Check.with(FULL);
            Edges.another(x, 5, () -> x.derive(0, 5));
            Edges.another(x, 5, () -> x.derive(1, 5));
        }).says(Edges.NO_CELL, () -> Edges.cells((x, cell) -> x.derive(cell, 0), (x, cell) -> x.derive(0, cell)))
            .done();
    }

    private static void root() {
        Sentences.ofPromise(19).says("That of which it is the SQUARE.", () -> {
            for (int place = 0; place <= 16; place++) {
                int p = place;
                Carryfree x = Check.with(1L << 2 * p, (1L << 2 * p) | 1);
                Check.act("of the place " + 2 * p, x, () -> x.root(0, 5), 1, 5, Integer.toString(p));
                Check.act("with the place 0", x, () -> x.root(1, 4), 1, 4, p == 0 ? "0" : p + " 0");
            }
            Carryfree x = Check.with(0x155555555L, 0, 1);
            Check.act("of all even places", x, () -> x.root(0, 5), 1, 5, "16 15 14 13 12 11 10 9 8 7 6 5 4 3 2 1 0");
            Check.act("of ZERO", x, () -> x.root(1, 5), 1, 5, "-");
            Check.act("of ONE", x, () -> x.root(2, 5), 1, 5, "0");
        }).says(Edges.ANOTHER, () -> {
            Carryfree x = Check.with(TOP + 1);
            Edges.another(x, 5, () -> x.root(0, 5));
            Edges.another(x, 5, () -> x.root(1, 5));
        }).says("REFUSED, if it is no SQUARE.", () -> {
            for (int place = 1; place <= 31; place += 2) {
                Carryfree x = Check.with(1L << place, TOP + (1L << place), 0x155555555L + (1L << place));
                Check.refused("with " + place + " alone", x, () -> x.root(0, 5));
                Check.refused("with " + place + " and 32", x, () -> x.root(1, 5));
                Check.refused("with " + place + " and all even places", x, () -> x.root(2, 5));
            }
            Carryfree x = Check.with(FULL);
            Check.refused("a full one", x, () -> x.root(0, 5));
        }).says(Edges.NO_CELL, () -> {
            Edges.cells((x, cell) -> x.root(cell, 0), (x, cell) -> x.root(4, cell));
        }).done();
    }

    private static void turn() {
        Sentences.ofPromise(20).says("It TURNED.", () -> {
            for (int place = 0; place <= 32; place++) {
                Carryfree x = Check.with(1L << place, TOP | 1L << place);
                Check.act("what is at " + place + " alone", x, () -> x.turn(0, 5), 1, 5, "0");
                x.turn(1, 5);
                Check.same("with 32", Edges.number(x.text(5)), 1 | 1L << (32 - place));
            }
            Carryfree x = Check.with(FULL, 0, 0b1011);
            Check.act("a full one", x, () -> x.turn(0, 5), 1, 5, Edges.FULL_TEXT);
            Check.act("ZERO", x, () -> x.turn(1, 5), 1, 5, "-");
            Check.act("1011", x, () -> x.turn(2, 5), 1, 5, "3 2 0");
        }).says(Edges.ANOTHER, () -> {
            Carryfree x = Check.with(FULL);
            Edges.another(x, 5, () -> x.turn(0, 5));
            Edges.another(x, 5, () -> x.turn(1, 5));
        }).says(Edges.NO_CELL, () -> Edges.cells((x, cell) -> x.turn(cell, 0), (x, cell) -> x.turn(0, cell)))
            .done();
    }

    private static void move() {
        Sentences.ofPromise(21).says("It MOVED.", () -> {
            Carryfree x = Check.with(0, 1, TOP, FULL, 0x80000000L, 2);
            Check.act("ZERO", x, () -> x.move(0, 0), 0, 0, "-");
            Check.act("ONE", x, () -> x.move(1, 0), 1, 0, "0");
            Check.act("X", x, () -> x.move(5, 0), 1, 0, "1 0");
            Check.act("X32", x, () -> x.move(2, 0), 1, 0, "32 0");
            Check.act("X31", x, () -> x.move(4, 0), 1, 0, Edges.FULL_TEXT.substring("32 ".length()));
            // All to 32 is (X33 and ONE) by (X and ONE); moved, that is (X33 moved, and ONE) by X.
            Check.act("a full one", x, () -> x.move(3, 0), 1, 0, "32 31 0");
        }).says(Edges.ANOTHER, () -> {
            Carryfree x = Check.with(FULL);
            Edges.another(x, 5, () -> x.move(0, 5));
            Edges.another(x, 5, () -> x.move(1, 5));
        }).says(Edges.NO_CELL, () -> Edges.cells((x, cell) -> x.move(cell, 0), (x, cell) -> x.move(0, cell)))
            .done();
    }

    private static void power() {
        Sentences.ofPromise(22).says("The REST of ONE, multiplied so many times with a POLY, by another one.", () -> {
            Carryfree x = Check.with(2, 0b100011101, 0, FULL, 3, 1 << 12);
            Check.act("X, as often as its period", x, () -> x.power(0, 255, 1, 2), 1, 2, "0");
            Check.act("X, 0 times", x, () -> x.power(0, 0, 1, 2), 0, 2, "0");
            Check.act("X, once", x, () -> x.power(0, 1, 1, 2), 1, 2, "1");
            Check.act("X, 8 times", x, () -> x.power(0, 8, 1, 2), 1, 2, "4 3 2 0");
            Check.act("a full one, by X and ONE", x, () -> x.power(3, 255, 4, 2), 1, 2, "0");
            Check.act("X, 11 times, by X12", x, () -> x.power(0, 11, 5, 2), 1, 2, "11");
            Check.act("X, 12 times, by X12", x, () -> x.power(0, 12, 5, 2), 1, 2, "-");
            Check.act("ZERO, 255 times", x, () -> x.power(2, 255, 1, 2), 0, 2, "-");
            Check.act("ZERO, once", x, () -> x.power(2, 1, 1, 2), 0, 2, "-");
            Check.act("ZERO, 0 times", x, () -> x.power(2, 0, 1, 2), 1, 2, "0");
        }).says("- `times`: how many times", () -> {
            // The period of X by 100011101 is 255, so that each power of it is another one.
            int due = 1;
            for (int times = 0; times <= 255; times++) {
                Carryfree x = Check.with(2, 0b100011101);
                x.power(0, times, 1, 5);
                Check.same("X, " + times + " times", x.digits(5), due);
                due = due < 128 ? due << 1 : due << 1 ^ 0b100011101;
            }
        }).says("REFUSED, if the DEGREE of that other one is not 1 to 12.", () -> {
            for (int degree = 0; degree <= 32; degree++) {
                int d = degree;
                Carryfree x = Check.with(2, 1L << d, FULL & (2L << d) - 1, 1L << d | 7);
                if (d >= 1 && d <= 12) {
                    Check.act("X" + d, x, () -> x.power(0, d, 1, 5), 0, 5, "-");
                    Check.act("all to " + d, x, () -> x.power(0, d + 1, 2, 5), 1, 5, "0");
                } else {
                    Check.refused("X" + d, x, () -> x.power(0, 3, 1, 5));
                    Check.refused("all to " + d + ", 0 times", x, () -> x.power(0, 0, 2, 5));
                    if (d > 2) {
                        Check.refused("X" + d + " and small ones", x, () -> x.power(0, 3, 3, 5));
                    }
                }
            }
            Carryfree x = Check.with(2, 0);
            Check.refused("ZERO", x, () -> x.power(0, 3, 1, 5));
            Check.refused("ZERO, 0 times", x, () -> x.power(0, 0, 1, 5));
        }).says(Edges.ANOTHER, () -> {
            Carryfree x = Check.with(2, 1 << 12);
            Edges.another(x, 5, () -> x.power(0, 11, 1, 5));
            Edges.another(x, 5, () -> x.power(0, 12, 1, 5));
        }).says(Edges.NO_CELL, () -> Edges.cells((x, cell) -> x.power(cell, 3, 0, 0),
            (x, cell) -> x.power(0, 3, cell, 0), (x, cell) -> x.power(0, 3, 0, cell)))
            .says(Edges.noNumber("times is not 0 to 255"), () -> Edges.numbers(0, 255, (x, n) -> x.power(0, n, 1, 2)))
            .without("- `cell`: the CELL with which it is multiplied")
            .without("- `modulus`: the CELL with that other one").done();
    }

    private static void nth() {
        Sentences.ofPromise(23).says("The IRREDUCIBLE one of a DEGREE with a RANK.", () -> {
            Carryfree x = new Carryfree();
            Check.act("X", x, () -> x.nth(1, 0, 0), 1, 0, "1");
            Check.act("X and ONE", x, () -> x.nth(1, 1, 0), 1, 0, "1 0");
            Check.act("the only one of 2", x, () -> x.nth(2, 0, 0), 1, 0, "2 1 0");
            Check.act("the first one of 3", x, () -> x.nth(3, 0, 0), 1, 0, "3 1 0");
            Check.act("the last one of 3", x, () -> x.nth(3, 1, 0), 1, 0, "3 2 0");
            Check.act("the first one of 4", x, () -> x.nth(4, 0, 0), 1, 0, "4 1 0");
            Check.act("the last one of 4", x, () -> x.nth(4, 2, 0), 1, 0, "4 3 2 1 0");
            Check.act("the first one of 8", x, () -> x.nth(8, 0, 0), 1, 0, "8 4 3 1 0");
            Check.act("the last one of 8", x, () -> x.nth(8, 29, 0), 1, 0, "8 7 6 5 4 3 0");
        }).says(Edges.ANOTHER, () -> {
            Carryfree x = new Carryfree();
            Edges.another(x, 5, () -> x.nth(1, 0, 5));
            Edges.another(x, 5, () -> x.nth(8, 29, 5));
        }).says("REFUSED, if there are not so many.", () -> {
            for (int degree = 1; degree <= 8; degree++) {
                int d = degree;
                Carryfree x = new Carryfree();
                Check.same("the last one of " + d, x.nth(d, HOW_MANY[d] - 1, 5), 1);
                Check.same("its degree", x.degree(5), d);
                for (int rank = HOW_MANY[d]; rank <= 40; rank++) {
                    int r = rank;
                    Carryfree y = Check.with(FULL);
                    Check.refused("rank " + r + " of " + d, y, () -> y.nth(d, r, 0));
                }
            }
        }).says(Edges.NO_CELL, () -> Edges.cells((x, cell) -> x.nth(3, 1, cell)))
            .says(Edges.noNumber("degree is not 1 to 8, or rank not 0 to 40"), () -> {
                Edges.numbers(1, 8, (x, degree) -> x.nth(degree, 0, 2));
                Edges.numbers(1, 8, (x, degree) -> x.nth(degree, 40, 2));
                Edges.numbers(0, 40, (x, rank) -> x.nth(8, rank, 2));
                Edges.numbers(0, 40, (x, rank) -> x.nth(1, rank, 2));
            }).done();
    }

    private static void field() {
        Sentences.ofPromise(24).says("The PRODUCT of all IRREDUCIBLE ones whose DEGREES divide a number (each once).",
            () -> {
                String[] due = {"", "2 1", "4 1", "8 1", "16 1", "32 1"};
                for (int n = 1; n <= 5; n++) {
                    int m = n;
                    Carryfree x = Check.with(FULL);
                    Check.act("for " + n, x, () -> x.field(m, 0), 1, 0, due[n]);
                    Check.same("each once", x.isFree(0), true);
                }
            }).says(Edges.ANOTHER, () -> {
                Carryfree x = new Carryfree();
                Edges.another(x, 5, () -> x.field(1, 5));
                Edges.another(x, 5, () -> x.field(5, 5));
            }).says(Edges.NO_CELL, () -> Edges.cells((x, cell) -> x.field(2, cell)))
            .says(Edges.noNumber("n is not 1 to 5"), () -> Edges.numbers(1, 5, (x, n) -> x.field(n, 2))).done();
    }

    private static void again() {
        Sentences.ofPromise(25).says("What is read from a CODE.", () -> {
            for (int radix = 2; radix <= 36; radix++) {
                int r = radix;
                Carryfree x = Check.with(FULL, 0, TOP, 0x80000000L, 1);
                Check.act("a full one in " + r, x, () -> x.again(0, r, 5), 1, 5, Edges.FULL_TEXT);
                Check.act("ZERO in " + r, x, () -> x.again(1, r, 5), 1, 5, "-");
                Check.act("X32 in " + r, x, () -> x.again(2, r, 5), 1, 5, "32");
                Check.act("X31 in " + r, x, () -> x.again(3, r, 5), 1, 5, "31");
                Check.act("ONE in " + r, x, () -> x.again(4, r, 5), 1, 5, "0");
                Check.same("its code stays", x.code(0, r), Long.toString(FULL, r));
            }
        }).says("- `cell`: a CELL of which the CODE is", () -> {
            Carryfree x = Check.with(5, 6);
            Check.act("of the one", x, () -> x.again(0, 10, 5), 1, 5, "2 0");
            Check.act("of the other one", x, () -> x.again(1, 10, 5), 1, 5, "2 1");
            Check.act("of INTO itself", x, () -> x.again(1, 10, 1), 0, 1, "2 1");
        }).says(Edges.ANOTHER, () -> {
            Carryfree x = Check.with(FULL);
            Edges.another(x, 5, () -> x.again(0, 2, 5));
            Edges.another(x, 5, () -> x.again(1, 36, 5));
        }).says(Edges.NO_CELL, () -> Edges.cells((x, cell) -> x.again(cell, 2, 0), (x, cell) -> x.again(0, 2, cell)))
            .says(Edges.noNumber("radix is not 2 to 36"), () -> Edges.numbers(2, 36, (x, r) -> x.again(0, r, 2)))
            .done();
    }
}
