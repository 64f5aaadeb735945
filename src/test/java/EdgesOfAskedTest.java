import java.lang.reflect.Field;
import java.math.BigInteger;
import java.util.ArrayList;
import java.util.List;

/** Each sentence of the promises 26 to 48 has a test of its own here. */
public final class EdgesOfAskedTest {
    private static final long TOP = Edges.TOP;
    private static final long FULL = Edges.FULL;
    private static final int[] HOW_MANY = {0, 2, 1, 2, 3, 6, 9, 18, 30};
    private static final boolean[] IS_PRODUCT = products();

    private EdgesOfAskedTest() {
    }

    public static void main(String[] args) {
        degree();
        low();
        weight();
        at();
        digits();
        text();
        code();
        order();
        isSame();
        value();
        divides();
        isFree();
        irreducible();
        rank();
        factors();
        period();
        many();
        formula();
        find();
        house();
        knock();
        isSound();
        digest();
        Sentences.doneFrom(26, 48);
        Check.finish("EdgesOfAskedTest");
    }

    private static int product(int a, int b) {
        int sum = 0;
        for (int place = 0; place < 16; place++) {
            sum ^= (b >> place & 1) * (a << place);
        }
        return sum;
    }

    /** For each number of a degree of 12 at most: whether it is that of a product of two of degree 1 or more. */
    private static boolean[] products() {
        boolean[] is = new boolean[1 << 13];
        for (int a = 2; a < 1 << 12; a++) {
            for (int b = 2; b <= a && product(a, b) < is.length; b++) {
                is[product(a, b)] = true;
            }
        }
        return is;
    }

    private static void degree() {
        Sentences.ofPromise(26).says("Returns DEGREE.", () -> {
            for (int place = 0; place <= 32; place++) {
                Carryfree x = Check.with(1L << place, FULL & (2L << place) - 1);
                Check.same("of X" + place, x.degree(0), place);
                Check.same("of all to " + place, x.degree(1), place);
                Check.same("of ZERO", x.degree(2), -1);
            }
        }).says(Edges.NO_CELL, () -> Edges.cells((x, cell) -> x.degree(cell))).done();
    }

    private static void low() {
        Sentences.ofPromise(27).says("Returns LOW.", () -> {
            for (int place = 0; place <= 32; place++) {
                Carryfree x = Check.with(1L << place, FULL >> place << place);
                Check.same("of X" + place, x.low(0), place);
                Check.same("of all from " + place, x.low(1), place);
                Check.same("of ZERO", x.low(2), -1);
            }
        }).says(Edges.NO_CELL, () -> Edges.cells((x, cell) -> x.low(cell))).done();
    }

    private static void weight() {
        Sentences.ofPromise(28).says("Returns WEIGHT.", () -> {
            for (int place = 0; place <= 32; place++) {
                Carryfree x = Check.with(1L << place, FULL & (2L << place) - 1, FULL >> place << place);
                Check.same("of X" + place, x.weight(0), 1);
                Check.same("of all to " + place, x.weight(1), place + 1);
                Check.same("of all from " + place, x.weight(2), 33 - place);
                Check.same("of ZERO", x.weight(3), 0);
            }
        }).says(Edges.NO_CELL, () -> Edges.cells((x, cell) -> x.weight(cell))).done();
    }

    private static void at() {
        Sentences.ofPromise(29).says("Returns whether it has 1 there.", () -> {
            for (int place = 0; place <= 99; place++) {
                Carryfree x = Check.with(FULL, 0, 1, TOP, FULL - 1);
                Check.same("a full one at " + place, x.at(0, place), place <= 32);
                Check.same("ZERO at " + place, x.at(1, place), false);
                Check.same("ONE at " + place, x.at(2, place), place == 0);
                Check.same("X32 at " + place, x.at(3, place), place == 32);
                Check.same("a full one but for 0, at " + place, x.at(4, place), place >= 1 && place <= 32);
            }
        }).says(Edges.NO_CELL, () -> Edges.cells((x, cell) -> x.at(cell, 3)))
            .says(Edges.noNumber("place is not 0 to 99"), () -> Edges.numbers(0, 99, (x, place) -> x.at(0, place)))
            .done();
    }

    private static void digits() {
        Sentences.ofPromise(30).says(
            "Returns its digits at the PLACES 0 to 31, as for put() (that of the PLACE 32 is not told).", () -> {
                for (int place = 0; place <= 31; place++) {
                    Carryfree x = Check.with(1L << place, TOP + (1L << place));
                    Check.same("of X" + place, x.digits(0), 1 << place);
                    Check.same("with X32", x.digits(1), 1 << place);
                }
                Carryfree x = Check.with(TOP, FULL, 0, TOP - 1);
                Check.same("of X32", x.digits(0), 0);
                Check.same("of a full one", x.digits(1), -1);
                Check.same("of ZERO", x.digits(2), 0);
                Check.same("of all below 32", x.digits(3), -1);
                for (int told : new int[] {Integer.MIN_VALUE, Integer.MAX_VALUE, -1, 0, -2, 0x12345678}) {
                    x.put(5, told);
                    Check.same("as for put", x.digits(5), told);
                }
            }).says(Edges.NO_CELL, () -> Edges.cells((x, cell) -> x.digits(cell))).done();
    }

    private static void text() {
        Sentences.ofPromise(31).says("Returns the PLACES at which it has 1, the greatest one first, with \" \" between",
            () -> {
                for (int place = 0; place <= 32; place++) {
                    Carryfree x = Check.with(1L << place);
                    Check.same("of X" + place, x.text(0), Integer.toString(place));
                }
                Carryfree x = Check.with(FULL, TOP + 1, 1024 + 512);
                Check.same("of a full one", x.text(0), Edges.FULL_TEXT);
                Check.same("of X32 and ONE", x.text(1), "32 0");
                Check.same("of X10 and X9", x.text(2), "10 9");
            }).says("\"-\" for ZERO.", () -> {
                Carryfree x = Check.with(0, 1);
                Check.same("of ZERO", x.text(0), "-");
                Check.same("of ONE", x.text(1), "0");
                x.flip(1, 0);
                Check.same("of what has become ZERO", x.text(1), "-");
            }).says(Edges.NO_CELL, () -> Edges.cells((x, cell) -> x.text(cell))).done();
    }

    private static void code() {
        Sentences.ofPromise(32).says("Returns its CODE.", () -> {
            for (int radix = 2; radix <= 36; radix++) {
                long[] numbers = {0, 1, radix - 1, radix, FULL, 0x80000000L};
                Carryfree x = Check.with(numbers);
                for (int cell = 0; cell <= 5; cell++) {
                    String due = Long.toString(numbers[cell], radix);
                    Check.same("of " + numbers[cell] + " in " + radix, x.code(cell, radix), due);
                }
            }
        }).says(Edges.NO_CELL, () -> Edges.cells((x, cell) -> x.code(cell, 10)))
            .says(Edges.noNumber("radix is not 2 to 36"), () -> Edges.numbers(2, 36, (x, radix) -> x.code(0, radix)))
            .done();
    }

    private static void order() {
        Sentences.ofPromise(33).says("Returns -1 if the first one is the lesser one, 1 if the second one is, "
            + "0 if they are the same.", () -> {
            for (int place = 0; place <= 32; place++) {
                Carryfree x = Check.with(1L << place, (1L << place) - 1, FULL, FULL - (1L << place), FULL);
                Check.same("X" + place + " and all below", x.order(0, 1), 1);
                Check.same("all below and X" + place, x.order(1, 0), -1);
                Check.same("full, and full but for " + place, x.order(2, 3), 1);
                Check.same("full but for " + place + ", and full", x.order(3, 2), -1);
                Check.same("two that are full", x.order(2, 4), 0);
                Check.same("ZERO and one", x.order(5, 0), -1);
            }
            Check.same("ZERO twice", new Carryfree().order(0, 1), 0);
        }).says(Edges.OR_THE_SAME, () -> {
            Carryfree x = Check.with(FULL);
            Check.same("full", x.order(0, 0), 0);
            Check.same("ZERO", x.order(1, 1), 0);
        }).says(Edges.NO_CELL, () -> Edges.cells((x, cell) -> x.order(cell, 0), (x, cell) -> x.order(0, cell))).done();
    }

    private static void isSame() {
        Sentences.ofPromise(34).says("Returns whether they are the same, PLACE by PLACE.", () -> {
            for (int place = 0; place <= 32; place++) {
                Carryfree x = Check.with(FULL, FULL - (1L << place), FULL, 1L << place);
                Check.same("unlike at " + place + " alone", x.isSame(0, 1), false);
                Check.same("unlike at " + place + " alone, turned about", x.isSame(1, 0), false);
                Check.same("ZERO, and 1 at " + place, x.isSame(4, 3), false);
                Check.same("two that are full", x.isSame(0, 2), true);
                Check.same("ZERO twice", x.isSame(4, 5), true);
            }
        }).says(Edges.OR_THE_SAME, () -> {
            Carryfree x = Check.with(FULL);
            Check.same("full", x.isSame(0, 0), true);
            Check.same("ZERO", x.isSame(1, 1), true);
        }).says(Edges.NO_CELL, () -> Edges.cells((x, cell) -> x.isSame(cell, 0), (x, cell) -> x.isSame(0, cell)))
            .done();
    }

    private static void value() {
        Sentences.ofPromise(35).says("Returns its VALUE there.", () -> {
            for (int place = 0; place <= 32; place++) {
                Carryfree x = Check.with(1L << place, FULL & (2L << place) - 1, FULL >> place << place);
                Check.same("of X" + place + " at 0", x.value(0, false), place == 0 ? 1 : 0);
                Check.same("of X" + place + " at 1", x.value(0, true), 1);
                Check.same("of all to " + place + " at 0", x.value(1, false), 1);
                Check.same("of all to " + place + " at 1", x.value(1, true), (place + 1) % 2);
                Check.same("of all from " + place + " at 0", x.value(2, false), place == 0 ? 1 : 0);
                Check.same("of all from " + place + " at 1", x.value(2, true), (33 - place) % 2);
            }
        }).says("- `isOne`: whether at 1, otherwise at 0", () -> {
            Carryfree x = Check.with(0, 1, 2, 3);
            Check.same("of ZERO", x.value(0, true) * 10 + x.value(0, false), 0);
            Check.same("of ONE", x.value(1, true) * 10 + x.value(1, false), 11);
            Check.same("of X", x.value(2, true) * 10 + x.value(2, false), 10);
            Check.same("of X and ONE", x.value(3, true) * 10 + x.value(3, false), 1);
        }).says(Edges.NO_CELL, () -> {
            Edges.cells((x, cell) -> x.value(cell, true), (x, cell) -> x.value(cell, false));
        }).done();
    }

    private static void divides() {
        Sentences.ofPromise(36).says("Returns whether the first one divides the second one.", () -> {
            Carryfree x = Check.with(0, 1, FULL, TOP, 2, 3);
            Check.same("ZERO divides ONE", x.divides(0, 1), false);
            Check.same("ZERO divides a full one", x.divides(0, 2), false);
            Check.same("ONE divides ZERO", x.divides(1, 0), true);
            Check.same("X32 divides ZERO", x.divides(3, 0), true);
            Check.same("ONE divides a full one", x.divides(1, 2), true);
            Check.same("a full one divides ONE", x.divides(2, 1), false);
            Check.same("X divides X32", x.divides(4, 3), true);
            Check.same("X32 divides X", x.divides(3, 4), false);
            Check.same("X32 divides a full one", x.divides(3, 2), false);
            Check.same("X divides a full one", x.divides(4, 2), false);
            Check.same("X and ONE divide a full one of 33", x.divides(5, 2), false);
            x.flip(2, 7);
            Check.same("X and ONE divide one of 32 places", x.divides(5, 2), true);
        }).says(Edges.OR_THE_SAME, () -> {
            Carryfree x = Check.with(FULL, 0, 1);
            Check.same("a full one", x.divides(0, 0), true);
            Check.same("ZERO", x.divides(1, 1), true);
            Check.same("ONE", x.divides(2, 2), true);
        }).says(Edges.NO_CELL, () -> Edges.cells((x, cell) -> x.divides(cell, 0), (x, cell) -> x.divides(0, cell)))
            .done();
    }

    private static void isFree() {
        Sentences.ofPromise(37).says("Returns whether it is FREE.", () -> {
            for (int number = 0; number < 1 << 10; number++) {
                boolean due = number != 0;
                for (int part = 2; part < 1 << 5; part++) {
                    for (int rest = 1; product(product(part, part), rest) < 1 << 10; rest++) {
                        due &= product(product(part, part), rest) != number;
                    }
                }
                Check.same("of " + number, Check.with(number).isFree(0), due);
            }
            Check.same("of X32", Check.with(TOP).isFree(0), false);
            Check.same("of X32 and X", Check.with(TOP + 2).isFree(0), true);
            Check.same("of X32 and X2", Check.with(TOP + 4).isFree(0), false);
            // X by the square of (X15 and ONE).
            Check.same("of X31 and X", Check.with(0x80000002L).isFree(0), false);
            // All to 32 divide X33 and ONE, which has no part twice.
            Check.same("of a full one", Check.with(FULL).isFree(0), true);
            Check.same("of the square of a part of degree 16", Check.with(0x155555555L).isFree(0), false);
        }).says(Edges.NO_CELL, () -> Edges.cells((x, cell) -> x.isFree(cell))).done();
    }

    private static void irreducible() {
        Sentences.ofPromise(38).says("Returns 1 if it is IRREDUCIBLE, 0 if not", () -> {
            for (int number = 0; number < 1 << 13; number++) {
                int due = number >= 2 && !IS_PRODUCT[number] ? 1 : 0;
                Check.same("of " + number, Check.with(number).irreducible(0), due);
            }
        }).says("REFUSED, if its DEGREE is above 12.", () -> {
            for (int degree = 0; degree <= 32; degree++) {
                Carryfree x = Check.with(1L << degree, FULL & (2L << degree) - 1, 1L << degree | 7);
                if (degree <= 12) {
                    Check.same("X" + degree, x.irreducible(0), degree == 1 ? 1 : 0);
                    Check.same("refusals", x.house(1), 0);
                } else {
                    Check.refused("X" + degree, x, () -> x.irreducible(0));
                    Check.refused("all to " + degree, x, () -> x.irreducible(1));
                    Check.refused("X" + degree + " and small ones", x, () -> x.irreducible(2));
                }
            }
            Carryfree x = Check.with(8191, 8192);
            Check.same("the last one", x.irreducible(0), 1);
            Check.refused("the next one", x, () -> x.irreducible(1));
        }).says(Edges.NO_CELL, () -> Edges.cells((x, cell) -> x.irreducible(cell))).done();
    }

    private static void rank() {
        Sentences.ofPromise(39).says("Returns its RANK, NONE if it is not IRREDUCIBLE", () -> {
            for (int degree = 0; degree <= 8; degree++) {
                int lesser = 0;
                for (int number = 1 << degree; number < 2 << degree; number++) {
                    boolean is = number >= 2 && !IS_PRODUCT[number];
                    Check.same("of " + number, Check.with(number).rank(0), is ? lesser : -1);
                    lesser += is ? 1 : 0;
                }
            }
            Check.same("of ZERO", new Carryfree().rank(0), -1);
        }).says("REFUSED, if its DEGREE is above 8.", () -> {
            for (int degree = 9; degree <= 32; degree++) {
                Carryfree x = Check.with(1L << degree, FULL & (2L << degree) - 1, 1L << degree | 7);
                Check.refused("X" + degree, x, () -> x.rank(0));
                Check.refused("all to " + degree, x, () -> x.rank(1));
                Check.refused("X" + degree + " and small ones", x, () -> x.rank(2));
            }
            Carryfree x = Check.with(511, 512, 529, 256);
            Check.same("the last one, of degree 8", x.rank(0), -1);
            Check.same("the first one, of degree 8", x.rank(3), -1);
            Check.same("refusals", x.house(1), 0);
            Check.refused("the next one", x, () -> x.rank(1));
            Check.refused("one of degree 9 that is irreducible", x, () -> x.rank(2));
        }).says(Edges.NO_CELL, () -> Edges.cells((x, cell) -> x.rank(cell))).done();
    }

    private static void factors() {
        Sentences.ofPromise(40).says(
            "Returns the NUMBERS of its FACTORS (written by the digits 0 to 9), with \" \" between", () -> {
                for (int number = 2; number < 1 << 9; number++) {
                    factorsOf(number);
                }
                Check.same("of X8", Check.with(256).factors(0), "2 2 2 2 2 2 2 2");
                Check.same("of X", Check.with(2).factors(0), "2");
                Check.same("of X8 and X", Check.with(258).factors(0), "2 3 11 13");
            }).says("\"\" of ONE", () -> {
                Carryfree x = Check.with(1);
                Check.same("of ONE", x.factors(0), "");
                Check.same("refusals", x.house(1), 0);
            }).says("REFUSED, if it is ZERO, or of a DEGREE above 8.", () -> {
                for (int degree = 9; degree <= 32; degree++) {
                    Carryfree x = Check.with(1L << degree, FULL & (2L << degree) - 1, 1L << degree | 7);
                    Check.refused("X" + degree, x, () -> x.factors(0));
                    Check.refused("all to " + degree, x, () -> x.factors(1));
                    Check.refused("X" + degree + " and small ones", x, () -> x.factors(2));
                }
                Carryfree x = Check.with(0, 511, 512);
                Check.refused("ZERO", x, () -> x.factors(0));
                Check.same("the last one", x.factors(1), "7 73");
                Check.refused("the next one", x, () -> x.factors(2));
            }).says(Edges.NO_CELL, () -> Edges.cells((x, cell) -> x.factors(cell))).done();
    }

    private static void factorsOf(int number) {
        String told = Check.with(number).factors(0);
        int all = 1;
        int lastPart = 2;
        StringBuilder again = new StringBuilder();
        for (String word : told.split(" ")) {
            int part = Integer.parseInt(word);
            Check.same("parts of " + number + " do not fall", part >= lastPart, true);
            Check.same("parts of " + number + " have no parts", IS_PRODUCT[part], false);
            again.append(again.length() > 0 ? " " : "").append(part);
            all = product(all, part);
            lastPart = part;
        }
        Check.same("the product of the parts", all, number);
        Check.same("how it is written", told, again.toString());
    }

    private static void period() {
        Sentences.ofPromise(41).says("Returns its PERIOD", () -> {
            int greatest = 0;
            for (int number = 3; number < 1 << 9; number += 2) {
                int due = periodOf(number);
                Check.same("of " + number, Check.with(number).period(0), due);
                greatest = Math.max(greatest, due);
            }
            Check.same("the greatest there is", greatest, 255);
        }).says("REFUSED, if its DEGREE is not 1 to 8, or it has 0 at the PLACE 0.", () -> {
            for (int degree = 0; degree <= 32; degree++) {
                long top = 1L << degree;
                Carryfree x = Check.with(top, top | 1, FULL - 1 & (2L << degree) - 1, top | 7);
                Check.refused("X" + degree, x, () -> x.period(0));
                Check.refused("all from 1 to " + degree, x, () -> x.period(2));
                if (degree >= 1 && degree <= 8) {
                    Check.same("X" + degree + " and ONE", x.period(1), degree);
                } else {
                    Check.refused("X" + degree + " with 1 at the place 0", x, () -> x.period(1));
                    if (degree > 8) {
                        Check.refused("X" + degree + " and small ones", x, () -> x.period(3));
                    }
                }
            }
            Carryfree x = Check.with(0, 1, 513, 511);
            Check.refused("ZERO", x, () -> x.period(0));
            Check.refused("ONE", x, () -> x.period(1));
            Check.refused("the next one above degree 8", x, () -> x.period(2));
            Check.same("the last one of degree 8", x.period(3), 9);
        }).says(Edges.NO_CELL, () -> Edges.cells((x, cell) -> x.period(cell))).done();
    }

    /** The least e for which 1 at the places e and 0 leaves no rest, by a division of a long row of digits. */
    private static int periodOf(int number) {
        int e = 1;
        while (Model.divided(BigInteger.ONE.setBit(e), BigInteger.valueOf(number))[1].signum() != 0) {
            e++;
        }
        return e;
    }

    private static void many() {
        Sentences.ofPromise(42).says("Returns how many IRREDUCIBLE ones have it.", () -> {
            for (int degree = 1; degree <= 8; degree++) {
                int due = 0;
                for (int number = 1 << degree; number < 2 << degree; number++) {
                    due += IS_PRODUCT[number] ? 0 : 1;
                }
                Check.same("of degree " + degree, new Carryfree().many(degree), due);
                Check.same("as is known", due, HOW_MANY[degree]);
            }
        }).says(Edges.noNumber("degree is not 1 to 8"), () -> Edges.numbers(1, 8, (x, degree) -> x.many(degree)))
            .done();
    }

    private static void formula() {
        Sentences.ofPromise(43).says("Returns what the formula tells for it.", () -> {
            int[] due = {0, 2 / 1, (4 - 2) / 2, (8 - 2) / 3, (16 - 4) / 4, (32 - 2) / 5, (64 - 8 - 4 + 2) / 6,
                (128 - 2) / 7, (256 - 16) / 8};
            for (int degree = 1; degree <= 8; degree++) {
                Check.same("for " + degree, new Carryfree().formula(degree), due[degree]);
            }
        }).says(Edges.noNumber("degree is not 1 to 8"), () -> Edges.numbers(1, 8, (x, degree) -> x.formula(degree)))
            .done();
    }

    private static void find() {
        Sentences.ofPromise(44).says("Returns the CELL, of all that have the same as that CELL.", () -> {
            for (int pattern = 0; pattern < 1 << 6; pattern++) {
                for (int place : new int[] {0, 31, 32}) {
                    findIn(pattern, FULL, FULL - (1L << place));
                }
            }
        }).says("- `isLast`: whether the last one, otherwise the first one", () -> {
            Carryfree x = Check.with(0, 7, 0, 7);
            Check.same("the last ZERO", x.find(0, true), 5);
            Check.same("the first ZERO", x.find(5, false), 0);
            Check.same("the last 7", x.find(1, true), 3);
            Check.same("the first 7", x.find(3, false), 1);
        }).says(Edges.NO_CELL, () -> {
            Edges.cells((x, cell) -> x.find(cell, true), (x, cell) -> x.find(cell, false));
        }).done();
    }

    private static void findIn(int pattern, long one, long other) {
        long[] numbers = new long[6];
        for (int cell = 0; cell <= 5; cell++) {
            numbers[cell] = (pattern >> cell & 1) == 1 ? one : other;
        }
        Carryfree x = Check.with(numbers);
        for (int cell = 0; cell <= 5; cell++) {
            List<Integer> same = new ArrayList<>();
            for (int k = 0; k <= 5; k++) {
                if (numbers[k] == numbers[cell]) {
                    same.add(k);
                }
            }
            Check.same("the first of " + same, x.find(cell, false), same.get(0));
            Check.same("the last of " + same, x.find(cell, true), same.get(same.size() - 1));
        }
    }

    private static void house() {
        Sentences.ofPromise(45).says("- `what`: 0 how many ACTS were done, 1 how often REFUSED (\"!\", too) was told, "
            + "2 how often one knocked, 3 how many CELLS have ZERO, 4 all WEIGHTS together", () -> {
            Carryfree x = new Carryfree();
            houseIs(x, 0, 0, 0, 6, 0);
            x.put(0, -1);
            houseIs(x, 1, 0, 0, 5, 32);
            x.factors(0);
            houseIs(x, 1, 1, 0, 5, 32);
            x.irreducible(0);
            houseIs(x, 1, 2, 0, 5, 32);
            x.knock();
            houseIs(x, 1, 2, 1, 5, 32);
            x.quotient(0, 1, 2);
            houseIs(x, 1, 3, 1, 5, 32);
            x.flip(0, 32);
            houseIs(x, 2, 3, 1, 5, 33);
            Check.throwsArgument("what throws is not counted", x, () -> x.mono(0, 33));
            for (int cell = 1; cell <= 5; cell++) {
                x.copy(0, cell);
            }
            houseIs(x, 7, 3, 1, 0, 6 * 33);
            x.mono(0, 32);
            x.mono(1, 0);
            x.put(2, 0);
            houseIs(x, 10, 3, 1, 1, 2 + 3 * 33);
        }).says("Returns that.", () -> {
            Carryfree x = Check.with(0, 5);
            Check.same("cells with ZERO", x.house(3), 5);
            Check.same("it is told again", x.house(3), 5);
            x.put(1, 0);
            Check.same("what has become ZERO counts", x.house(3), 6);
        }).says(Edges.noNumber("what is not 0 to 4"), () -> Edges.numbers(0, 4, (x, what) -> x.house(what))).done();
    }

    private static void houseIs(Carryfree x, int... due) {
        for (int what = 0; what <= 4; what++) {
            Check.same("house(" + what + ")", x.house(what), due[what]);
        }
    }

    private static void knock() {
        Sentences.ofPromise(46).says("Knocks.", () -> {
            Carryfree x = Check.with(FULL, 3);
            x.knock();
            Check.same("it is counted", x.house(2), 1);
            Check.same("no act", x.house(0), 4);
            Check.same("nothing refused", x.house(1), 0);
            Check.same("a cell", x.text(0), Edges.FULL_TEXT);
        }).says("Returns how often one knocked, with this.", () -> {
            Carryfree x = new Carryfree();
            for (int often = 1; often <= 512; often++) {
                Check.same("knock", x.knock(), often);
            }
            Check.same("another object", new Carryfree().knock(), 1);
        }).done();
    }

    private static void isSound() {
        Sentences.ofPromise(47).says("Returns whether all of this is so: the DEGREE of each CELL is 32 at most, and "
            + "its LOW is not above its DEGREE", () -> {
            Check.same("of a new one, with NONE and NONE", new Carryfree().isSound(), true);
            for (int place = 0; place <= 32; place++) {
                Carryfree x = Check.with(0, 0, 1L << place, FULL >> place << place, FULL & (2L << place) - 1, FULL);
                Check.same("with " + place, x.isSound(), true);
            }
            for (int cell = 0; cell <= 5; cell++) {
                Carryfree x = withDegree33In(cell);
                Check.same("with a degree of 33 in " + cell, x.isSound(), false);
                Check.same("that is told in the checksum", digestOf(x), true);
            }
        }).says("the GCD of the CELLS 0 and 1 is the SUM of both, each multiplied with its BEZOUT one.", () -> {
            long[] some = {0, 1, 2, 3, 11, 283, 0x80000000L, 0x80000001L, TOP - 1, TOP, TOP + 1, TOP + 2, FULL};
            for (long a : some) {
                for (long b : some) {
                    Check.same("with " + a + " and " + b, Check.with(a, b).isSound(), true);
                }
            }
        }).done();
    }

    /** No call can make this: the cells' row is reached into, which is a long for each cell, its bits the digits. */
    private static Carryfree withDegree33In(int cell) {
        Carryfree x = Check.with(5, 6, 7);
        try {
            Field field = Carryfree.class.getDeclaredField("cells");
            field.setAccessible(true);
            ((long[]) field.get(x))[cell] = 1L << 33;
        } catch (ReflectiveOperationException e) {
            throw new IllegalStateException(e);
        }
        return x;
    }

    private static void digest() {
        Sentences.ofPromise(48).says("Computes a checksum. A number d starts with 7686; then d becomes d * 31 + v, "
            + "which wraps around as a 64-bit integer, for each v in this order: ", () -> {
            BigInteger due = BigInteger.valueOf(7686);
            for (int v : new int[] {0, -1, -1, 0, 5, 0, -1, -1, 0, 5, 0, -1, -1, 0, 5, 0, -1, -1, 0, 5,
                0, -1, -1, 0, 5, 0, -1, -1, 0, 5, 0, 0, 0, 0, 0, 0, 0, 0, 6, 0, 1}) {
                due = due.multiply(BigInteger.valueOf(31)).add(BigInteger.valueOf(v));
            }
            Check.same("wraps around", due.bitLength() > 64, true);
            Check.same("of a new one", new Carryfree().digest(), due.longValue());
        }).says("CELL by CELL digits(), degree(), low(), weight(), find() for the last one; of the CELLS 0 and 1, "
            + "1 and 2, 2 and 3, 3 and 4, 4 and 5 order(); house() of 0 to 4; 1 if isSound(), otherwise 0.", () -> {
            Check.same("of what is minus", digestOf(Check.with(TOP - 1, FULL, 0x80000000L, 0, 1, 0)), true);
            for (long a : new long[] {0, 1, 0x80000000L, TOP, FULL}) {
                for (long b : new long[] {0, 1, 0x80000000L, TOP, FULL}) {
                    Check.same("of " + a + ", " + b, digestOf(Check.with(a, b, b, a, 0, b)), true);
                }
            }
        }).says("Returns d.", () -> {
            Carryfree x = Check.with(FULL, 6);
            long first = x.digest();
            Check.same("the same again", x.digest(), first);
            x.knock();
            Check.same("a knock: three steps of 31 ahead of the end", x.digest(), first + 31L * 31 * 31);
            x.square(0, 0);
            Check.same("refused: four steps of 31", x.digest(), first + 31L * 31 * 31 + 31L * 31 * 31 * 31);
        }).done();
    }

    /** Whether digest() is what the other answers of this object make of it. */
    private static boolean digestOf(Carryfree x) {
        List<Integer> all = new ArrayList<>();
        x.knock();
        x.divides(0, 1);
        x.factors(3);
        for (int cell = 0; cell <= 5; cell++) {
            all.addAll(List.of(x.digits(cell), x.degree(cell), x.low(cell), x.weight(cell), x.find(cell, true)));
        }
        for (int cell = 0; cell <= 4; cell++) {
            all.add(x.order(cell, cell + 1));
        }
        for (int what = 0; what <= 4; what++) {
            all.add(x.house(what));
        }
        all.add(x.isSound() ? 1 : 0);
        BigInteger due = BigInteger.valueOf(7686);
        for (int v : all) {
            due = due.multiply(BigInteger.valueOf(31)).add(BigInteger.valueOf(v));
        }
        return x.digest() == due.longValue();
    }
}
