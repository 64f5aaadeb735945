import java.math.BigInteger;
import java.util.ArrayList;
import java.util.List;

/** Each sentence of the document's description has a test of its own here. */
public final class EdgesOfDescriptionTest {
    private static final long TOP = Edges.TOP;
    private static final long FULL = Edges.FULL;
    private static final long[] SOME = {0, 1, 2, 3, 6, 11, 0b1110110, 283, 0x10001, 0x7FFFFFFFL, 0x80000000L,
        0x80000001L, TOP - 1, TOP, TOP + 1, TOP + 2, 0x155555555L, FULL - 1, FULL};
    private static final List<Face> FACE = Face.all();

    private EdgesOfDescriptionTest() {
    }

    public static void main(String[] args) {
        Sentences all = Sentences.ofDescription();
        whole(all);
        polys(all);
        reckoned(all);
        euclid(all);
        changed(all);
        irreducibles(all);
        cells(all);
        all.done();
        Check.finish("EdgesOfDescriptionTest");
    }

    // ==== ahead of section 1

    private static void whole(Sentences all) {
        all.without("Six cells with polynomials over two numbers, 0 and 1, of which 1 and 1 are 0: they are added, "
            + "multiplied, divided with a rest; have greatest common parts, and what belongs to these; are derived, "
            + "turned, moved, raised by others; and are told apart into those that have no smaller ones in them.");
        all.says("An object is used for at most 512 calls after it has been made; what later calls answer is free.",
            EdgesOfDescriptionTest::calls512);
        all.without("Whole numbers.");
        all.says("NONE is -1.", () -> {
            Carryfree x = new Carryfree();
            Check.same("degree of ZERO", x.degree(0), -1);
            Check.same("low of ZERO", x.low(0), -1);
            Check.same("rank of ZERO", x.rank(0), -1);
        });
        all.says("REFUSED is -9, as a text \"!\": the call is let, but cannot be done; nothing changes then, but that "
            + "it is counted.", EdgesOfDescriptionTest::refused);
        all.says("A method that throws an exception changes nothing.", EdgesOfDescriptionTest::thrown);
        all.says("If several exceptions apply, the one that is named first is thrown",
            EdgesOfDescriptionTest::firstNamed);
        all.says("exceptions go ahead of REFUSED.", EdgesOfDescriptionTest::aheadOfRefused);
    }

    /** The 512th answer is as good as the first, of the acts and of what is refused too. */
    private static void calls512() {
        Carryfree x = new Carryfree();
        for (int call = 1; call <= 510; call++) {
            // 66 calls take 66 unlike digits, and the next 66 calls take these again.
            Check.same("flip, call " + call, x.flip(call % 6, call % 33), (call - 1) / 66 % 2 == 0);
        }
        Check.same("acts, call 511", x.house(0), 510);
        Check.same("all weights, call 512", x.house(4), 18);
        Carryfree y = new Carryfree();
        for (int call = 1; call <= 511; call++) {
            Check.same("factors of ZERO, call " + call, y.factors(0), "!");
        }
        Check.same("refusals, call 512", y.house(1), 511);
        Carryfree z = Check.with(FULL);
        for (int call = 3; call <= 512; call++) {
            Check.same("text, call " + call, z.text(0), Edges.FULL_TEXT);
        }
        Carryfree w = Check.with(511);
        for (int call = 3; call <= 512; call++) {
            Check.same("rank, call " + call, w.rank(0), -1);
        }
    }

    private static void refused() {
        Carryfree x = Check.with(FULL, 2, 1, TOP, 257);
        Check.refused("times", x, () -> x.times(0, 1, 2));
        Check.refused("square", x, () -> x.square(0, 0));
        Check.refused("shift", x, () -> x.shift(3, 1, 3));
        Check.refused("quotient", x, () -> x.quotient(0, 5, 0));
        Check.refused("rest", x, () -> x.rest(0, 5, 0));
        Check.refused("lcm", x, () -> x.lcm(0, 1, 1));
        Check.refused("root", x, () -> x.root(1, 0));
        Check.refused("power", x, () -> x.power(0, 1, 0, 0));
        Check.refused("nth", x, () -> x.nth(2, 1, 0));
        Carryfree y = Check.with(FULL, 2, 0);
        Check.refused("irreducible", y, () -> y.irreducible(0));
        Check.refused("rank", y, () -> y.rank(0));
        Check.refused("factors", y, () -> y.factors(2));
        Check.refused("period", y, () -> y.period(1));
        Check.refused("period, again", y, () -> y.period(1));
        Check.same("they are counted all together", x.house(1) + y.house(1), 14);
        Check.same("and go on", y.text(0), Edges.FULL_TEXT);
    }

    private static void thrown() {
        int tried = 0;
        for (Face face : FACE) {
            for (int k = 0; k < face.size(); k++) {
                for (int wrong : face.hasWrong(k) ? Face.ALWAYS_WRONG : new int[0]) {
                    Carryfree x = Check.with(FULL, 7, 0, 2, TOP, 0x80000000L);
                    x.knock();
                    x.square(0, 0);
                    Object[] told = face.good(1);
                    told[k] = wrong;
                    String before = allOf(x);
                    String due = face.isCell(k) ? "IndexOutOfBoundsException" : "IllegalArgumentException";
                    Check.same(face.name + " with " + wrong + " at " + k, face.on(x, told), "throws " + due);
                    Check.same(face.name + ", and then all", allOf(x), before);
                    tried++;
                }
            }
        }
        Check.same("the face takes 86 numbers that are bound, each was tried with four wrong ones", tried, 86 * 4);
    }

    private static String allOf(Carryfree x) {
        StringBuilder all = new StringBuilder();
        for (int cell = 0; cell <= 5; cell++) {
            all.append(x.text(cell)).append('/');
        }
        for (int what = 0; what <= 4; what++) {
            all.append(x.house(what)).append('/');
        }
        return all.append(x.digest()).toString();
    }

    private static void firstNamed() {
        int tried = 0;
        for (Face face : FACE) {
            for (int a = 0; a < face.size(); a++) {
                for (int b = 0; b < face.size(); b++) {
                    if (a != b && face.hasWrong(a) && face.hasWrong(b) && face.isCell(a)) {
                        Carryfree x = Edges.someCells();
                        Object[] told = face.good(1);
                        told[a] = 6;
                        told[b] = Integer.MIN_VALUE;
                        Check.same(face.name + ", wrong at " + a + " and " + b, face.on(x, told),
                            "throws " + face.thrown.get(0));
                        tried++;
                    }
                }
            }
            Object[] told = face.good(1);
            for (int k = 0; k < told.length; k++) {
                told[k] = face.hasWrong(k) ? (Object) 300 : told[k];
            }
            if (!face.thrown.isEmpty()) {
                Check.same(face.name + ", all wrong", face.on(new Carryfree(), told), "throws " + face.thrown.get(0));
            }
        }
        Check.same("some were tried", tried > 50, true);
    }

    private static void aheadOfRefused() {
        Carryfree x = Check.with(FULL, 2, 1, TOP);
        Check.throwsIndex("times", x, () -> x.times(0, 1, 6));
        Check.throwsIndex("square", x, () -> x.square(0, 6));
        Check.throwsIndex("shift, into", x, () -> x.shift(3, 1, 6));
        Check.throwsArgument("shift, by", x, () -> x.shift(3, 33, 3));
        Check.throwsIndex("quotient", x, () -> x.quotient(0, 5, 6));
        Check.throwsIndex("quotient by ZERO, of no cell", x, () -> x.quotient(6, 5, 0));
        Check.throwsIndex("rest", x, () -> x.rest(0, 5, 6));
        Check.throwsIndex("rest by ZERO, of no cell", x, () -> x.rest(6, 5, 0));
        Check.throwsIndex("lcm", x, () -> x.lcm(0, 1, 6));
        Check.throwsIndex("root", x, () -> x.root(1, 6));
        Carryfree y = Check.with(FULL, 2, 1, TOP);
        Check.throwsIndex("power, into", y, () -> y.power(0, 1, 0, 6));
        Check.throwsIndex("power, cell", y, () -> y.power(6, 1, 0, 0));
        Check.throwsArgument("power, times", y, () -> y.power(0, 256, 0, 0));
        Check.throwsArgument("power, times, by ZERO", y, () -> y.power(0, -1, 5, 0));
        Check.throwsIndex("nth, into", y, () -> y.nth(2, 1, 6));
        Check.throwsArgument("nth, rank", y, () -> y.nth(2, 41, 0));
        Check.throwsArgument("nth, degree", y, () -> y.nth(9, 40, 0));
        Check.same("nothing was refused", x.house(1) + y.house(1), 0);
    }

    // ==== section 1

    private static void polys(Sentences all) {
        all.says("A POLY has at each PLACE (0, 1, 2 and so on) a digit, 0 or 1; from some PLACE on all are 0.", () -> {
            Carryfree x = Check.with(FULL, 0);
            for (int place = 0; place <= 99; place++) {
                Check.same("a full one at " + place, x.at(0, place), place <= 32);
                Check.same("ZERO at " + place, x.at(1, place), false);
            }
        });
        all.says("DEGREE: the greatest PLACE with 1; NONE if there is none.", () -> {
            Carryfree x = Check.with(0, 1, FULL, FULL - TOP, 6, TOP);
            int[] due = {-1, 0, 32, 31, 2, 32};
            for (int cell = 0; cell <= 5; cell++) {
                Check.same("of " + x.text(cell), x.degree(cell), due[cell]);
            }
        });
        all.says("LOW: the least one; NONE if there is none.", () -> {
            Carryfree x = Check.with(0, 1, FULL, FULL - 1, 0x80000000L, TOP);
            int[] due = {-1, 0, 0, 1, 31, 32};
            for (int cell = 0; cell <= 5; cell++) {
                Check.same("of " + x.text(cell), x.low(cell), due[cell]);
            }
        });
        all.says("WEIGHT: how many PLACES have 1.", () -> {
            Carryfree x = Check.with(0, 1, FULL, FULL - 1, 0x80000000L, TOP + 1);
            int[] due = {0, 1, 33, 32, 1, 2};
            for (int cell = 0; cell <= 5; cell++) {
                Check.same("of " + x.text(cell), x.weight(cell), due[cell]);
            }
        });
        all.says("ZERO has no 1, ONE has 1 at the PLACE 0 alone, X at the PLACE 1 alone.", () -> {
            Carryfree x = Check.with(0, 6, 4);
            Check.act("ONE: X and X2 by themselves", x, () -> x.quotient(1, 1, 5), 1, 5, "0");
            Check.act("ZERO: their sum", x, () -> x.join(1, 1, 0, 5), 1, 5, "-");
            Check.act("X: the first one that is irreducible", x, () -> x.nth(1, 0, 5), 1, 5, "1");
        });
        all.says("NUMBER: the sum of 2^k for each PLACE k with 1.", () -> {
            for (int place = 0; place <= 32; place++) {
                Carryfree x = Check.with(1L << place, FULL & (2L << place) - 1);
                Check.same("of X" + place, x.code(0, 10), Long.toString(1L << place));
                Check.same("of all to " + place, x.code(1, 10), Long.toString((2L << place) - 1));
            }
            Check.same("of ZERO", new Carryfree().code(0, 10), "0");
        });
        all.says("Of two the lesser one is that with the lesser NUMBER (so, at the greatest PLACE where they are not "
            + "the same, that with 0).", () -> {
            for (long a : SOME) {
                for (long b : SOME) {
                    Carryfree x = Check.with(a, b);
                    Check.same(a + " and " + b, x.order(0, 1), Long.compare(a, b));
                    x.end(0, 1, false, 5);
                    Check.same("the lesser one of " + a + " and " + b, Edges.number(x.text(5)), Math.min(a, b));
                    x.end(0, 1, true, 5);
                    Check.same("the greater one of " + a + " and " + b, Edges.number(x.text(5)), Math.max(a, b));
                }
            }
        });
    }

    private static void reckoned(Sentences all) {
        all.says("SUM of two: 1 at each PLACE at which just one of both has 1.", () -> {
            for (long a : SOME) {
                for (long b : SOME) {
                    Carryfree x = Check.with(a, b);
                    x.join(0, 1, 0, 5);
                    for (int place = 0; place <= 32; place++) {
                        Check.same(a + " and " + b, x.at(5, place), (a >> place & 1) != (b >> place & 1));
                    }
                }
            }
        });
        all.says("PRODUCT of two: at the PLACE k there is 1, if the number of pairs of PLACES i and j with i + j = k, "
            + "the first one having 1 at i and the second one at j, is odd; otherwise 0.", () -> {
            long[] some = {0, 1, 3, 7, 11, 0b1110110, 0xFFFF, 0x10001, 0x1FFFF, 0xA5A5};
            for (long a : some) {
                for (long b : some) {
                    Carryfree x = Check.with(a, b);
                    Check.same(a + " by " + b + " is let", x.times(0, 1, 5), a == 0 || b == 0 ? 0 : 1);
                    Check.same(a + " by " + b, Edges.number(x.text(5)), byPairs(a, b));
                }
            }
        });
        all.says("SQUARE: the PRODUCT with itself.", () -> {
            for (long a : new long[] {0, 1, 2, 3, 7, 0b1110110, 0xFFFF, 0x10000, 0x1FFFF}) {
                Carryfree x = Check.with(a);
                x.square(0, 5);
                x.times(0, 0, 4);
                Check.same("the square of " + a, Edges.number(x.text(5)), byPairs(a, a));
                Check.same("as the product", x.isSame(4, 5), true);
            }
        });
        all.says("QUOTIENT and REST of a POLY by one that is not ZERO: as THEOREM tells (the REST is ZERO, or of a "
            + "lesser DEGREE than that; a second one of DEGREE 0 leaves the REST ZERO).", () -> {
            for (long a : SOME) {
                for (long b : SOME) {
                    if (b != 0) {
                        theorem(a, b);
                    }
                }
            }
        });
        all.says("One divides another one, if that is a PRODUCT of it and some POLY (ZERO divides ZERO alone; each one "
            + "divides ZERO).", () -> {
            for (int a = 0; a < 32; a++) {
                for (int b = 0; b < 32; b++) {
                    boolean due = false;
                    for (int part = 0; part < 32; part++) {
                        due |= byPairs(a, part) == b;
                    }
                    Check.same(a + " divides " + b, Check.with(a, b).divides(0, 1), due);
                }
            }
            for (long a : SOME) {
                Check.same(a + " divides ZERO", Check.with(a, 0).divides(0, 1), true);
                Check.same("ZERO divides " + a, Check.with(a, 0).divides(1, 0), a == 0);
            }
        });
    }

    private static long byPairs(long a, long b) {
        long product = 0;
        for (int k = 0; k <= 32; k++) {
            int pairs = 0;
            for (int i = 0; i <= k; i++) {
                pairs += (a >> i & 1) == 1 && (b >> (k - i) & 1) == 1 ? 1 : 0;
            }
            product |= (long) (pairs % 2) << k;
        }
        return product;
    }

    /** The quotient by the second one, and the rest, are the first one; and the rest is the lesser one. */
    private static void theorem(long a, long b) {
        Carryfree x = Check.with(a, b);
        x.quotient(0, 1, 2);
        x.rest(0, 1, 3);
        Check.same("degree of the rest of " + a + " by " + b, x.degree(3) < x.degree(1), true);
        Check.same("it is let", x.times(2, 1, 4) >= 0, true);
        x.join(4, 3, 0, 4);
        Check.same("both together, of " + a + " by " + b, x.isSame(4, 0), true);
        if (b == 1) {
            Check.same("the rest by ONE", x.text(3), "-");
        }
    }

    private static void euclid(Sentences all) {
        all.says("EUCLID of two: three rows begin with both POLYS; with ONE and ZERO; with ZERO and ONE.", () -> {
            // Of ZERO as the second one no row goes on: what is told is the last but one of each beginning.
            for (long a : SOME) {
                euclidIs(a, 0, a, 1, 0);
            }
        });
        all.says("As long as the last one of the first row is not ZERO: q is the QUOTIENT of the last but one of the "
            + "first row by its last one; then in each row comes, behind its last one, the SUM of its last but one and "
            + "of the PRODUCT of q and its last one.", () -> {
            // One step alone, with the quotients ZERO, X2 and ONE, and one of degree 32.
            euclidIs(0, 5, 5, 0, 1);
            euclidIs(10, 2, 2, 0, 1);
            euclidIs(FULL, 1, 1, 0, 1);
            euclidIs(FULL, FULL, FULL, 0, 1);
            // Two steps: 1011 is 11 by 110, and ONE.
            euclidIs(11, 3, 1, 1, 6);
            euclidIs(3, 11, 1, 6, 1);
            for (long a = 0; a < 64; a++) {
                for (long b = 0; b < 64; b++) {
                    euclidAsModel(a, b);
                }
            }
        });
        all.says("At the end GCD is the last but one of the first row, FIRST BEZOUT that of the second row, SECOND "
            + "BEZOUT that of the third row.", () -> {
            for (long a : SOME) {
                for (long b : SOME) {
                    euclidAsModel(a, b);
                }
            }
        });
        all.says("(So the GCD of a POLY and ZERO is that POLY.)", () -> {
            for (long a : SOME) {
                Carryfree x = Check.with(a);
                x.gcd(0, 1, 4);
                Check.same("of " + a + " and ZERO", x.isSame(4, 0), true);
                x.gcd(1, 0, 5);
                Check.same("of ZERO and " + a, x.isSame(5, 0), true);
            }
        });
        all.says("LCM of two: ZERO if one of both is; otherwise the QUOTIENT of their PRODUCT by their GCD.", () -> {
            for (long a : SOME) {
                for (long b : SOME) {
                    lcmIs(a, b);
                }
            }
        });
    }

    private static void euclidIs(long a, long b, long gcd, long first, long second) {
        Carryfree x = Check.with(a, b);
        String what = " of " + a + " and " + b;
        x.gcd(0, 1, 5);
        Check.same("the gcd" + what, Edges.number(x.text(5)), gcd);
        x.bezout(0, 1, true, 5);
        Check.same("the first bezout" + what, Edges.number(x.text(5)), first);
        x.bezout(0, 1, false, 5);
        Check.same("the second bezout" + what, Edges.number(x.text(5)), second);
    }

    private static void euclidAsModel(long a, long b) {
        BigInteger[] due = Model.euclid(BigInteger.valueOf(a), BigInteger.valueOf(b));
        euclidIs(a, b, due[0].longValue(), due[1].longValue(), due[2].longValue());
    }

    private static void lcmIs(long a, long b) {
        BigInteger one = BigInteger.valueOf(a);
        BigInteger other = BigInteger.valueOf(b);
        BigInteger due = a == 0 || b == 0 ? BigInteger.ZERO
            : Model.divided(Model.product(one, other), Model.euclid(one, other)[0])[0];
        Carryfree x = Check.with(a, b, 0, 0, 0, FULL - 2);
        if (due.bitLength() > 33) {
            Check.refused("the lcm of " + a + " and " + b, x, () -> x.lcm(0, 1, 5));
        } else {
            Check.same("the lcm of " + a + " and " + b + " is let", x.lcm(0, 1, 5), 1);
            Check.same("the lcm of " + a + " and " + b, Edges.number(x.text(5)), due.longValue());
        }
    }

    private static void changed(Sentences all) {
        all.says("DERIVED: what stands at an odd PLACE k comes to the PLACE k - 1; what stands at an even one goes.",
            () -> {
                for (int place = 0; place <= 32; place++) {
                    Carryfree x = Check.with(1L << place, FULL - (1L << place));
                    x.derive(0, 4);
                    x.derive(1, 5);
                    long due = place % 2 == 1 ? 1L << (place - 1) : 0;
                    Check.same("X" + place, Edges.number(x.text(4)), due);
                    Check.same("full but for " + place, Edges.number(x.text(5)), 0x55555555L - due);
                }
            });
        all.says("TURNED: what stands at the PLACE k comes to the PLACE DEGREE - k (ZERO stays).", () -> {
            for (long a : SOME) {
                Carryfree x = Check.with(a, 0, 0, 0, 0, 12);
                x.turn(0, 5);
                long due = 0;
                for (int place = 0; place <= x.degree(0); place++) {
                    due |= (a >> place & 1) << (x.degree(0) - place);
                }
                Check.same(a + " turned", Edges.number(x.text(5)), due);
            }
            Carryfree x = Check.with(0, 12);
            Check.act("ZERO stays", x, () -> x.turn(0, 1), 1, 1, "-");
        });
        all.says("MOVED: the SUM, over all PLACES k with 1, of ONE multiplied k times with the SUM of X and ONE.",
            () -> {
                for (long a : SOME) {
                    long due = 0;
                    long power = 1;
                    for (int place = 0; place <= 32; place++) {
                        due ^= (a >> place & 1) * power;
                        power ^= power << 1;
                    }
                    Carryfree x = Check.with(a);
                    x.move(0, 5);
                    Check.same(a + " moved", Edges.number(x.text(5)), due);
                }
            });
        all.says("VALUE at 0: the digit of the PLACE 0.", () -> {
            for (long a : SOME) {
                Check.same("of " + a, Check.with(a).value(0, false), (int) (a % 2));
            }
        });
        all.says("VALUE at 1: 1 if WEIGHT is odd, otherwise 0.", () -> {
            for (long a : SOME) {
                Check.same("of " + a, Check.with(a).value(0, true), Long.bitCount(a) % 2);
            }
        });
        all.says("FREE: not divided by the SQUARE of any POLY of DEGREE 1 or more.", () -> {
            for (int part = 2; part < 256; part++) {
                Carryfree x = Check.with(part, 1);
                x.square(0, 5);
                Check.same("the square of " + part, x.isFree(5), false);
                x.times(5, 0, 4);
                Check.same("that by " + part, x.isFree(4), false);
            }
            Check.same("ONE: the square of ONE is of degree 0", Check.with(1).isFree(0), true);
            Check.same("ZERO: each one divides it", new Carryfree().isFree(0), false);
            Check.same("X", Check.with(2).isFree(0), true);
            Check.same("X and ONE", Check.with(3).isFree(0), true);
            Check.same("X2 and X", Check.with(6).isFree(0), true);
            Carryfree x = new Carryfree();
            for (int n = 1; n <= 5; n++) {
                x.field(n, 0);
                Check.same("field " + n, x.isFree(0), true);
            }
        });
        all.says("CODE in a RADIX (2 to 36): NUMBER written by digits 0 to 9 and a to z of that RADIX, the highest one "
            + "first, that one not 0; \"0\" for ZERO.", EdgesOfDescriptionTest::codes);
    }

    private static void codes() {
        String signs = "0123456789abcdefghijklmnopqrstuvwxyz";
        for (int radix = 2; radix <= 36; radix++) {
            for (int digit = 0; digit < radix; digit++) {
                String due = signs.substring(digit, digit + 1);
                Carryfree x = Check.with(digit, radix + digit, (long) radix * radix * (radix - 1) + digit);
                Check.same(digit + " in " + radix, x.code(0, radix), due);
                Check.same("one and " + digit + " in " + radix, x.code(1, radix), "1" + due);
                Check.same("the last sign, 0 and that", x.code(2, radix), signs.charAt(radix - 1) + "0" + due);
            }
            Check.same("ZERO in " + radix, new Carryfree().code(0, radix), "0");
        }
        Check.same("a full one in 2", Check.with(FULL).code(0, 2), "111111111111111111111111111111111");
        Check.same("a full one in 8", Check.with(FULL).code(0, 8), "77777777777");
        Check.same("a full one in 10", Check.with(FULL).code(0, 10), "8589934591");
        Check.same("a full one in 16", Check.with(FULL).code(0, 16), "1ffffffff");
        Check.same("X31 in 16", Check.with(0x80000000L).code(0, 16), "80000000");
    }

    // ==== section 2

    private static void irreducibles(Sentences all) {
        all.says("IRREDUCIBLE: of DEGREE 1 or more, and divided by no POLY whose DEGREE is 1 or more and less than its "
            + "own. (X is, and the SUM of X and ONE.)", () -> {
            Check.same("ZERO", new Carryfree().irreducible(0), 0);
            Check.same("ONE", Check.with(1).irreducible(0), 0);
            Check.same("X", Check.with(2).irreducible(0), 1);
            Check.same("X and ONE", Check.with(3).irreducible(0), 1);
            for (long number = 2; number < 1 << 9; number++) {
                boolean due = Model.isIrreducible(BigInteger.valueOf(number));
                Check.same("of " + number, Check.with(number).irreducible(0), due ? 1 : 0);
            }
        });
        all.says("RANK of an IRREDUCIBLE one: how many lesser ones of its DEGREE are IRREDUCIBLE.", () -> {
            for (int degree = 1; degree <= 8; degree++) {
                int lesser = 0;
                for (long number = 1L << degree; number < 2L << degree; number++) {
                    Carryfree x = Check.with(number);
                    if (x.irreducible(0) == 1) {
                        Check.same("of " + number, x.rank(0), lesser);
                        Check.same("found by it", x.nth(degree, lesser, 1), 1);
                        Check.same("as it was", x.isSame(0, 1), true);
                        lesser++;
                    }
                }
            }
        });
        all.says("FACTORS of a POLY of DEGREE 0 to 8: the IRREDUCIBLE ones whose PRODUCT it is, each as often as it "
            + "takes, by NUMBERS that do not fall (none of ONE).", () -> {
            Check.same("none of ONE", Check.with(1).factors(0), "");
            for (int often = 1; often <= 8; often++) {
                Carryfree x = Check.with(1L << often);
                Check.same("X" + often, x.factors(0), "2 2 2 2 2 2 2 2".substring(0, 2 * often - 1));
                x.move(0, 1);
                Check.same("X" + often + " moved", x.factors(1), "3 3 3 3 3 3 3 3".substring(0, 2 * often - 1));
            }
            Check.same("X and ONE by X, four times each", Check.with(0b100010000).factors(0), "2 2 2 2 3 3 3 3");
            Carryfree x = Check.with(7);
            x.square(0, 0);
            x.square(0, 0);
            Check.same("7, four times", x.factors(0), "7 7 7 7");
            Carryfree y = Check.with(11, 13);
            y.times(0, 1, 2);
            Check.same("11 and 13", y.factors(2), "11 13");
            y.times(1, 0, 2);
            Check.same("13 and 11", y.factors(2), "11 13");
            Check.same("one of degree 8 without parts", Check.with(505).factors(0), "505");
        });
        all.says("PERIOD of a POLY of DEGREE 1 to 8 with 1 at the PLACE 0: the least e from 1 on for which it divides "
            + "the SUM of ONE and of what has 1 at the PLACE e alone (there is one, of 255 at most).", () -> {
            Check.same("the least there is, of X and ONE", Check.with(3).period(0), 1);
            Check.same("X2 and ONE", Check.with(5).period(0), 2);
            Check.same("the greatest there is", Check.with(0b100011101).period(0), 255);
            for (int number = 3; number < 1 << 9; number += 2) {
                int e = Check.with(number).period(0);
                Check.same("the period of " + number, e >= 1 && e <= 255, true);
                for (int place = 1; place <= Math.min(e, 32); place++) {
                    boolean is = Check.with(number, (1L << place) + 1).divides(0, 1);
                    Check.same(number + " divides X" + place + " and ONE", is, place == e);
                }
            }
        });
        all.says("The formula for a DEGREE n: the sum, over all whole numbers d that divide n, of M(d) * 2^(n / d), "
            + "divided by n; M is 1 of 1 and 6, -1 of 2, 3, 5 and 7, 0 of 4 and 8.", () -> {
            int[] due = {0, 2, 1, 2, 3, 6, 9, 18, 30};
            Carryfree x = new Carryfree();
            for (int degree = 1; degree <= 8; degree++) {
                Check.same("for " + degree, x.formula(degree), due[degree]);
                Check.same("as many", x.many(degree), due[degree]);
            }
        });
    }

    // ==== section 3

    private static void cells(Sentences all) {
        all.says("CELLS 0 to 5, each with a POLY of DEGREE 32 at most; ZERO at first.", () -> {
            Carryfree x = new Carryfree();
            for (int cell = 0; cell <= 5; cell++) {
                int c = cell;
                Check.same("at first", x.text(c), "-");
                Check.act("the greatest one", x, () -> x.mono(c, 32), 1, c, "32");
                Check.refused("one more", x, () -> x.shift(c, 1, c));
            }
            for (int cell = 0; cell <= 5; cell++) {
                x.put(cell, cell + 1);
            }
            for (int cell = 0; cell <= 5; cell++) {
                Check.same("each its own", x.digits(cell), cell + 1);
            }
            Check.throwsIndex("no cell 6", x, () -> x.mono(6, 32));
            Check.throwsIndex("no cell -1", x, () -> x.mono(-1, 32));
        });
        all.says("An ACT puts something into a CELL (INTO); what was there ahead of it is what is reckoned with, also "
            + "if INTO is one of the CELLS that are told.", EdgesOfDescriptionTest::intoWhatIsTold);
        all.says("If what would come has a DEGREE above 32, it is REFUSED.", () -> {
            Carryfree x = Check.with(0x10000, 0x20000, TOP, FULL, 2);
            Check.refused("times", x, () -> x.times(0, 1, 5));
            Check.refused("times, much above", x, () -> x.times(3, 2, 5));
            Check.refused("square", x, () -> x.square(1, 5));
            Check.refused("shift", x, () -> x.shift(1, 16, 5));
            Check.refused("lcm", x, () -> x.lcm(2, 3, 5));
            Check.refused("lcm, just above", x, () -> x.lcm(4, 3, 5));
            Check.act("times, just at 32", x, () -> x.times(0, 0, 5), 1, 5, "32");
            Check.act("shift, just at 32", x, () -> x.shift(1, 15, 5), 0, 5, "32");
            Check.act("lcm, just at 32", x, () -> x.lcm(2, 4, 5), 0, 5, "32");
            Check.act("square, just at 32", x, () -> x.square(0, 5), 0, 5, "32");
        });
        all.says("ACTS are all methods of the first group below; of these those are counted that throw nothing and are "
            + "not REFUSED.", EdgesOfDescriptionTest::acts);
        all.without("The constructor and the methods follow, a promise each: the signature, then what it does.");
    }

    /** With INTO among the cells that are told comes what comes into a cell that is not told. */
    private static void intoWhatIsTold() {
        int tried = 0;
        for (Face face : FACE) {
            int into = face.size() - 1;
            if (face.isAct && face.size() > 1 && face.isInto(into)) {
                for (long[] some : new long[][] {{0b10100, 0b1010, 3}, {0b1010, 0b100, 3}, {TOP, 5, 3}, {1, 0, 3}}) {
                    Carryfree apart = Check.with(some);
                    Object answer = face.on(apart, told(face, 5));
                    for (int told = 0; told <= 1; told++) {
                        Carryfree x = Check.with(some);
                        String before = x.text(told);
                        String due = answer.equals(-9) ? before : apart.text(5);
                        Check.same(face.name + " into " + told + " answers", face.on(x, told(face, told)),
                            answer.equals(-9) ? (Object) (-9) : due.equals(before) ? 0 : 1);
                        Check.same(face.name + " into " + told, x.text(told), due);
                        Check.same(face.name + " leaves the other one", x.text(1 - told), apart.text(1 - told));
                        Check.same(face.name + " leaves a third one", x.text(2), "1 0");
                        tried++;
                    }
                }
            }
        }
        Check.same("19 acts tell INTO behind something else, each was tried eight times", tried, 19 * 8);
    }

    /** The first cell that is told is 0, the second one 1. */
    private static Object[] told(Face face, int into) {
        Object[] told = face.good(0);
        int cells = 0;
        for (int k = 0; k < told.length; k++) {
            if (face.isCell(k)) {
                told[k] = face.isInto(k) ? into : cells++;
            }
        }
        return told;
    }

    private static void acts() {
        List<String> names = new ArrayList<>();
        for (Face face : FACE) {
            Carryfree x = Check.with(0, 0, 0b10000);
            Object answer = face.on(x, face.good(2));
            boolean isRefused = answer.equals(-9) || answer.equals("!");
            Check.same(face.name + " counts as an act", x.house(0), face.isAct ? 7 : 6);
            Check.same(face.name + " counts as refused", x.house(1), isRefused ? 1 : 0);
            if (face.isAct) {
                names.add(face.name);
                Check.same(face.name + " is let", isRefused, false);
                Object[] told = face.good(2);
                told[0] = face.hasWrong(0) ? 300 : 6;
                Check.same(face.name + " throws", face.on(x, told).toString().startsWith("throws "), true);
                Check.same(face.name + ", throwing, is not counted", x.house(0), 7);
            }
        }
        Check.same("acts", names.size(), 24);
        Carryfree x = Check.with(FULL);
        Check.refused("what is refused is not counted", x, () -> x.square(0, 0));
        Check.act("what changes nothing is counted", x, () -> x.copy(0, 0), 0, 0, Edges.FULL_TEXT);
    }
}
