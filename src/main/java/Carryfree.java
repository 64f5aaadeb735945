/**
 * Six cells with polynomials over two numbers, 0 and 1, of which 1 and 1 are 0.
 *
 * A polynomial is held as a long: its bit k is the digit at the place k. So the long is also what
 * the document calls its NUMBER.
 */
public final class Carryfree {
    private static final int NONE = -1;
    private static final int REFUSED = -9;
    private static final String REFUSED_TEXT = "!";
    private static final int CELLS = 6;
    private static final int TOP_PLACE = 32;
    private static final int TOP_PLACE_ASKED = 99;
    private static final int TOP_LISTED_DEGREE = 8;
    private static final int TOP_TESTED_DEGREE = 12;
    private static final int TOP_RANK = 40;
    private static final int TOP_TIMES = 255;
    private static final int TOP_FIELD = 5;
    private static final long PUT_PLACES = 0xFFFFFFFFL;
    private static final long DIGEST_START = 7686;

    private final long[] cells;
    private int acts;
    private int refusals;
    private int knocks;

    public Carryfree() {
        cells = new long[CELLS];
        acts = 0;
        refusals = 0;
        knocks = 0;
    }

    // ==== acts

    public int put(int cell, int digits) throws IndexOutOfBoundsException {
        checkCell(cell);
        return fill(cell, digits & PUT_PLACES);
    }

    public int mono(int cell, int place) throws IndexOutOfBoundsException, IllegalArgumentException {
        checkCell(cell);
        checkRange(place, 0, TOP_PLACE);
        return fill(cell, Polys.single(place));
    }

    public boolean digit(int cell, int place, boolean is) throws IndexOutOfBoundsException, IllegalArgumentException {
        long old = polyIn(cell);
        checkRange(place, 0, TOP_PLACE);
        fill(cell, is ? old | Polys.single(place) : old & ~Polys.single(place));
        return Polys.hasOne(old, place);
    }

    public boolean flip(int cell, int place) throws IndexOutOfBoundsException, IllegalArgumentException {
        long old = polyIn(cell);
        checkRange(place, 0, TOP_PLACE);
        fill(cell, old ^ Polys.single(place));
        return !Polys.hasOne(old, place);
    }

    public int copy(int cell, int into) throws IndexOutOfBoundsException {
        long poly = polyIn(cell);
        checkCell(into);
        return fill(into, poly);
    }

    public int swap(int cell, int other) throws IndexOutOfBoundsException {
        long one = polyIn(cell);
        long two = polyIn(other);
        cells[cell] = two;
        cells[other] = one;
        acts++;
        return one == two ? 0 : 1;
    }

    public int end(int first, int second, boolean isGreatest, int into) throws IndexOutOfBoundsException {
        long a = polyIn(first);
        long b = polyIn(second);
        checkCell(into);
        return fill(into, isGreatest ? Math.max(a, b) : Math.min(a, b));
    }

    public int join(int first, int second, int how, int into)
            throws IndexOutOfBoundsException, IllegalArgumentException {
        long a = polyIn(first);
        long b = polyIn(second);
        checkCell(into);
        checkRange(how, 0, 3);
        return fill(into, Polys.joined(a, b, how));
    }

    public int times(int first, int second, int into) throws IndexOutOfBoundsException {
        long a = polyIn(first);
        long b = polyIn(second);
        checkCell(into);
        return fillProduct(into, a, b);
    }

    public int square(int cell, int into) throws IndexOutOfBoundsException {
        long poly = polyIn(cell);
        checkCell(into);
        return fillProduct(into, poly, poly);
    }

    public int shift(int cell, int by, int into) throws IndexOutOfBoundsException, IllegalArgumentException {
        long poly = polyIn(cell);
        checkCell(into);
        checkRange(by, -TOP_PLACE, TOP_PLACE);
        if (poly != 0 && Polys.topPlace(poly) + by > TOP_PLACE) {
            return refuse();
        }
        return fill(into, by >= 0 ? poly << by : poly >>> -by);
    }

    public int quotient(int first, int second, int into) throws IndexOutOfBoundsException {
        long a = polyIn(first);
        long b = polyIn(second);
        checkCell(into);
        return b == 0 ? refuse() : fill(into, Polys.quotientOf(a, b));
    }

    public int rest(int first, int second, int into) throws IndexOutOfBoundsException {
        long a = polyIn(first);
        long b = polyIn(second);
        checkCell(into);
        return b == 0 ? refuse() : fill(into, Polys.restOf(a, b));
    }

    public int gcd(int first, int second, int into) throws IndexOutOfBoundsException {
        long a = polyIn(first);
        long b = polyIn(second);
        checkCell(into);
        return fill(into, Polys.gcdOf(a, b));
    }

    public int lcm(int first, int second, int into) throws IndexOutOfBoundsException {
        long a = polyIn(first);
        long b = polyIn(second);
        checkCell(into);
        // The product of both can have more places than a long: one is divided ahead of it.
        return fillProduct(into, a, Polys.quotientOf(b, Polys.gcdOf(a, b)));
    }

    public int bezout(int first, int second, boolean isFirst, int into) throws IndexOutOfBoundsException {
        long a = polyIn(first);
        long b = polyIn(second);
        checkCell(into);
        return fill(into, isFirst ? Polys.firstBezout(a, b) : Polys.secondBezout(a, b));
    }

    public int derive(int cell, int into) throws IndexOutOfBoundsException {
        long poly = polyIn(cell);
        checkCell(into);
        return fill(into, Polys.derived(poly));
    }

    public int root(int cell, int into) throws IndexOutOfBoundsException {
        long poly = polyIn(cell);
        checkCell(into);
        // A square has its ones at even places alone, and each such polynomial is a square.
        if (Polys.derived(poly) != 0) {
            return refuse();
        }
        return fill(into, Polys.evenPlacesHalved(poly));
    }

    public int turn(int cell, int into) throws IndexOutOfBoundsException {
        long poly = polyIn(cell);
        checkCell(into);
        return fill(into, Polys.turned(poly));
    }

    public int move(int cell, int into) throws IndexOutOfBoundsException {
        long poly = polyIn(cell);
        checkCell(into);
        return fill(into, Polys.moved(poly));
    }

    public int power(int cell, int times, int modulus, int into)
            throws IndexOutOfBoundsException, IllegalArgumentException {
        long base = polyIn(cell);
        long by = polyIn(modulus);
        checkCell(into);
        checkRange(times, 0, TOP_TIMES);
        if (!hasDegreeIn(by, 1, TOP_TESTED_DEGREE)) {
            return refuse();
        }
        return fill(into, Polys.powerRest(base, times, by));
    }

    public int nth(int degree, int rank, int into) throws IndexOutOfBoundsException, IllegalArgumentException {
        checkCell(into);
        checkRange(degree, 1, TOP_LISTED_DEGREE);
        checkRange(rank, 0, TOP_RANK);
        long poly = Irreducibles.withRank(degree, rank);
        return poly == 0 ? refuse() : fill(into, poly);
    }

    public int field(int n, int into) throws IndexOutOfBoundsException, IllegalArgumentException {
        checkCell(into);
        checkRange(n, 1, TOP_FIELD);
        return fill(into, Irreducibles.productForDivisors(n));
    }

    public int again(int cell, int radix, int into) throws IndexOutOfBoundsException, IllegalArgumentException {
        long poly = polyIn(cell);
        checkCell(into);
        checkRange(radix, 2, 36);
        // A code tells the whole number in every radix: what is read from it is what was written.
        return fill(into, poly);
    }

    // ==== asked

    public int degree(int cell) throws IndexOutOfBoundsException {
        return Polys.topPlace(polyIn(cell));
    }

    public int low(int cell) throws IndexOutOfBoundsException {
        return Polys.bottomPlace(polyIn(cell));
    }

    public int weight(int cell) throws IndexOutOfBoundsException {
        return Long.bitCount(polyIn(cell));
    }

    public boolean at(int cell, int place) throws IndexOutOfBoundsException, IllegalArgumentException {
        long poly = polyIn(cell);
        checkRange(place, 0, TOP_PLACE_ASKED);
        return Polys.hasOne(poly, place);
    }

    public int digits(int cell) throws IndexOutOfBoundsException {
        return (int) polyIn(cell);
    }

    public String text(int cell) throws IndexOutOfBoundsException {
        return Texts.placesOf(polyIn(cell));
    }

    public String code(int cell, int radix) throws IndexOutOfBoundsException, IllegalArgumentException {
        long poly = polyIn(cell);
        checkRange(radix, 2, 36);
        return Texts.numberIn(poly, radix);
    }

    public int order(int first, int second) throws IndexOutOfBoundsException {
        long a = polyIn(first);
        long b = polyIn(second);
        return a < b ? -1 : a > b ? 1 : 0;
    }

    public boolean isSame(int first, int second) throws IndexOutOfBoundsException {
        return polyIn(first) == polyIn(second);
    }

    public int value(int cell, boolean isOne) throws IndexOutOfBoundsException {
        long poly = polyIn(cell);
        return isOne ? Long.bitCount(poly) & 1 : (int) (poly & 1);
    }

    public boolean divides(int first, int second) throws IndexOutOfBoundsException {
        return Polys.isDivisor(polyIn(first), polyIn(second));
    }

    public boolean isFree(int cell) throws IndexOutOfBoundsException {
        long poly = polyIn(cell);
        // The square of a part divides a polynomial just if that part is also in what it derives to.
        return Polys.gcdOf(poly, Polys.derived(poly)) == 1;
    }

    public int irreducible(int cell) throws IndexOutOfBoundsException {
        long poly = polyIn(cell);
        if (Polys.topPlace(poly) > TOP_TESTED_DEGREE) {
            return refuse();
        }
        return Irreducibles.isOne(poly) ? 1 : 0;
    }

    public int rank(int cell) throws IndexOutOfBoundsException {
        long poly = polyIn(cell);
        if (Polys.topPlace(poly) > TOP_LISTED_DEGREE) {
            return refuse();
        }
        return Irreducibles.isOne(poly) ? Irreducibles.countBelow(Polys.topPlace(poly), poly) : NONE;
    }

    public String factors(int cell) throws IndexOutOfBoundsException {
        long poly = polyIn(cell);
        if (!hasDegreeIn(poly, 0, TOP_LISTED_DEGREE)) {
            refuse();
            return REFUSED_TEXT;
        }
        return Irreducibles.factorsOf(poly);
    }

    public int period(int cell) throws IndexOutOfBoundsException {
        long poly = polyIn(cell);
        if (!hasDegreeIn(poly, 1, TOP_LISTED_DEGREE) || !Polys.hasOne(poly, 0)) {
            return refuse();
        }
        return Irreducibles.periodOf(poly);
    }

    public int many(int degree) throws IllegalArgumentException {
        checkRange(degree, 1, TOP_LISTED_DEGREE);
        return Irreducibles.countBelow(degree, Polys.single(degree + 1));
    }

    public int formula(int degree) throws IllegalArgumentException {
        checkRange(degree, 1, TOP_LISTED_DEGREE);
        return Irreducibles.formulaFor(degree);
    }

    public int find(int cell, boolean isLast) throws IndexOutOfBoundsException {
        long poly = polyIn(cell);
        int found = cell;
        for (int k = 0; k < cells.length; k++) {
            if (cells[k] == poly && (isLast ? k > found : k < found)) {
                found = k;
            }
        }
        return found;
    }

    // ==== the whole

    public int house(int what) throws IllegalArgumentException {
        checkRange(what, 0, 4);
        switch (what) {
            case 0:
                return acts;
            case 1:
                return refusals;
            case 2:
                return knocks;
            case 3:
                return cellsWithZero();
            default:
                return allWeights();
        }
    }

    public int knock() {
        knocks++;
        return knocks;
    }

    public boolean isSound() {
        for (int k = 0; k < cells.length; k++) {
            int top = Polys.topPlace(cells[k]);
            if (top > TOP_PLACE || Polys.bottomPlace(cells[k]) > top) {
                return false;
            }
        }
        long a = polyIn(0);
        long b = polyIn(1);
        long sum = Polys.product(a, Polys.firstBezout(a, b)) ^ Polys.product(b, Polys.secondBezout(a, b));
        return Polys.gcdOf(a, b) == sum;
    }

    public long digest() {
        long d = DIGEST_START;
        for (int k = 0; k < CELLS; k++) {
            d = d * 31 + digits(k);
            d = d * 31 + degree(k);
            d = d * 31 + low(k);
            d = d * 31 + weight(k);
            d = d * 31 + find(k, true);
        }
        for (int k = 0; k + 1 < CELLS; k++) {
            d = d * 31 + order(k, k + 1);
        }
        for (int what = 0; what <= 4; what++) {
            d = d * 31 + house(what);
        }
        return d * 31 + (isSound() ? 1 : 0);
    }

    // ==== what the methods above share

    private void checkCell(int cell) {
        if (cell < 0 || cell >= cells.length) {
            throw new IndexOutOfBoundsException("a cell is 0 to 5");
        }
    }

    private static void checkRange(int number, int least, int greatest) {
        if (number < least || number > greatest) {
            throw new IllegalArgumentException("a number is out of its range");
        }
    }

    private long polyIn(int cell) {
        checkCell(cell);
        return cells[cell];
    }

    private static boolean hasDegreeIn(long poly, int least, int greatest) {
        int top = Polys.topPlace(poly);
        return top >= least && top <= greatest;
    }

    private int fill(int into, long poly) {
        boolean isAnother = polyIn(into) != poly;
        cells[into] = poly;
        acts++;
        return isAnother ? 1 : 0;
    }

    private int fillProduct(int into, long a, long b) {
        if (a != 0 && b != 0 && Polys.topPlace(a) + Polys.topPlace(b) > TOP_PLACE) {
            return refuse();
        }
        return fill(into, Polys.product(a, b));
    }

    private int refuse() {
        refusals++;
        return REFUSED;
    }

    private int cellsWithZero() {
        int count = 0;
        for (int k = 0; k < cells.length; k++) {
            if (cells[k] == 0) {
                count++;
            }
        }
        return count;
    }

    private int allWeights() {
        int sum = 0;
        for (int k = 0; k < cells.length; k++) {
            sum += Long.bitCount(cells[k]);
        }
        return sum;
    }

    /** What is reckoned with polynomials: each is a long, as the class says. */
    private static final class Polys {
        private static final int PLACES = 64;
        private static final long EVEN_PLACES = 0x5555555555555555L;

        static long single(int place) {
            return 1L << place;
        }

        static boolean hasOne(long poly, int place) {
            // Java's shift counts round at 64: places from there on are looked at apart.
            return place >= 0 && place < PLACES && (poly >>> place & 1) == 1;
        }

        static int topPlace(long poly) {
            int top = NONE;
            for (int place = 0; place < PLACES && poly >>> place != 0; place++) {
                top = place;
            }
            return top;
        }

        static int bottomPlace(long poly) {
            for (int place = 0; place < PLACES; place++) {
                if (hasOne(poly, place)) {
                    return place;
                }
            }
            return NONE;
        }

        static long joined(long a, long b, int how) {
            switch (how) {
                case 0:
                    return a ^ b;
                case 1:
                    return a & b;
                case 2:
                    return a | b;
                default:
                    return a & ~b;
            }
        }

        static long product(long a, long b) {
            long sum = 0;
            for (int place = 0; place < PLACES && b >>> place != 0; place++) {
                if (hasOne(b, place)) {
                    sum ^= a << place;
                }
            }
            return sum;
        }

        /** ZERO where b is ZERO: whoever must refuse that, asks ahead of it. */
        static long quotientOf(long a, long b) {
            if (b == 0) {
                return 0;
            }
            int topOfB = topPlace(b);
            long left = a;
            long quotient = 0;
            for (int place = topPlace(a); place >= topOfB; place--) {
                if (hasOne(left, place)) {
                    left ^= b << (place - topOfB);
                    quotient |= single(place - topOfB);
                }
            }
            return quotient;
        }

        static long restOf(long a, long b) {
            return a ^ product(quotientOf(a, b), b);
        }

        static boolean isDivisor(long a, long b) {
            return restOf(b, a) == 0;
        }

        /**
         * EUCLID of a and b: the last but one of the row that begins with these two, when the first
         * row (a and b) has come to ZERO.
         */
        private static long euclid(long a, long b, long rowFirst, long rowSecond) {
            long lastButOne = a;
            long last = b;
            long rowLastButOne = rowFirst;
            long rowLast = rowSecond;
            // The last one's degree falls with each step, so that there are no more steps than places.
            for (int step = 0; step <= PLACES && last != 0; step++) {
                long q = quotientOf(lastButOne, last);
                long next = lastButOne ^ product(q, last);
                long rowNext = rowLastButOne ^ product(q, rowLast);
                lastButOne = last;
                last = next;
                rowLastButOne = rowLast;
                rowLast = rowNext;
            }
            return rowLastButOne;
        }

        static long gcdOf(long a, long b) {
            return euclid(a, b, a, b);
        }

        static long firstBezout(long a, long b) {
            return euclid(a, b, 1, 0);
        }

        static long secondBezout(long a, long b) {
            return euclid(a, b, 0, 1);
        }

        static long derived(long poly) {
            return poly >>> 1 & EVEN_PLACES;
        }

        static long evenPlacesHalved(long poly) {
            long half = 0;
            for (int place = 0; place < PLACES; place += 2) {
                if (hasOne(poly, place)) {
                    half |= single(place / 2);
                }
            }
            return half;
        }

        static long turned(long poly) {
            int top = topPlace(poly);
            long back = 0;
            for (int place = 0; place <= top; place++) {
                if (hasOne(poly, place)) {
                    back |= single(top - place);
                }
            }
            return back;
        }

        static long moved(long poly) {
            // From the top place down: what there is, times X and ONE, and the next digit.
            long sum = 0;
            for (int place = topPlace(poly); place >= 0; place--) {
                sum = sum << 1 ^ sum ^ (poly >>> place & 1);
            }
            return sum;
        }

        /** For a modulus of degree 1 to 12 and times of 0 to 255. */
        static long powerRest(long base, int times, long modulus) {
            long small = restOf(base, modulus);
            long power = 1;
            for (int bit = 7; bit >= 0; bit--) {
                power = restOf(product(power, power), modulus);
                if ((times >> bit & 1) == 1) {
                    power = restOf(product(power, small), modulus);
                }
            }
            return power;
        }
    }

    /** What is told of the irreducible ones. */
    private static final class Irreducibles {
        private static final int TOP_PERIOD = 255;
        private static final int FACTORS_END = 512;

        static boolean isOne(long poly) {
            int top = Polys.topPlace(poly);
            if (top < 1) {
                return false;
            }
            // Of two parts of a polynomial one has half of its degree at most.
            long end = Polys.single(top / 2 + 1);
            for (long part = 2; part < end; part++) {
                if (Polys.isDivisor(part, poly)) {
                    return false;
                }
            }
            return true;
        }

        /** How many irreducible ones of that degree are lesser than the end. */
        static int countBelow(int degree, long end) {
            int count = 0;
            for (long poly = Polys.single(degree); poly < end; poly++) {
                if (isOne(poly)) {
                    count++;
                }
            }
            return count;
        }

        /** ZERO, if there are not so many. */
        static long withRank(int degree, int rank) {
            int lesser = 0;
            for (long poly = Polys.single(degree); poly < Polys.single(degree + 1); poly++) {
                if (isOne(poly)) {
                    if (lesser == rank) {
                        return poly;
                    }
                    lesser++;
                }
            }
            return 0;
        }

        static long productForDivisors(int n) {
            long product = 1;
            for (int degree = 1; degree <= n; degree++) {
                if (n % degree == 0) {
                    product = timesAllOf(product, degree);
                }
            }
            return product;
        }

        private static long timesAllOf(long start, int degree) {
            long product = start;
            for (long poly = Polys.single(degree); poly < Polys.single(degree + 1); poly++) {
                if (isOne(poly)) {
                    product = Polys.product(product, poly);
                }
            }
            return product;
        }

        /** For one of degree 0 to 8, so that no part reaches the end. */
        static String factorsOf(long poly) {
            StringBuilder numbers = new StringBuilder();
            long left = poly;
            // The least one that divides what is left is irreducible: its own parts would be lesser.
            for (int part = 2; part < FACTORS_END; part++) {
                for (int often = 0; often < Polys.PLACES && left > 1 && Polys.isDivisor(part, left); often++) {
                    if (numbers.length() > 0) {
                        numbers.append(' ');
                    }
                    numbers.append(part);
                    left = Polys.quotientOf(left, part);
                }
            }
            return numbers.toString();
        }

        /** For one of degree 1 to 8 with 1 at the place 0. */
        static int periodOf(long poly) {
            long power = 1;
            for (int e = 1; e <= TOP_PERIOD; e++) {
                power = Polys.restOf(power << 1, poly);
                if (power == 1) {
                    return e;
                }
            }
            return NONE;
        }

        static int formulaFor(int n) {
            int sum = 0;
            for (int d = 1; d <= n; d++) {
                if (n % d == 0) {
                    sum += signOf(d) * (1 << n / d);
                }
            }
            return n > 0 ? sum / n : 0;
        }

        private static int signOf(int d) {
            switch (d) {
                case 1:
                case 6:
                    return 1;
                case 2:
                case 3:
                case 5:
                case 7:
                    return -1;
                default:
                    return 0;
            }
        }
    }

    /** How polynomials are written. */
    private static final class Texts {
        static String placesOf(long poly) {
            if (poly == 0) {
                return "-";
            }
            StringBuilder places = new StringBuilder();
            for (int place = Polys.topPlace(poly); place >= 0; place--) {
                if (Polys.hasOne(poly, place)) {
                    if (places.length() > 0) {
                        places.append(' ');
                    }
                    places.append(place);
                }
            }
            return places.toString();
        }

        static String numberIn(long number, int radix) {
            if (number <= 0 || radix < 2) {
                return "0";
            }
            StringBuilder signs = new StringBuilder();
            long left = number;
            for (int count = 0; count < Polys.PLACES && left > 0; count++) {
                signs.append(signOf((int) (left % radix)));
                left /= radix;
            }
            return signs.reverse().toString();
        }

        private static char signOf(int digit) {
            return (char) (digit < 10 ? '0' + digit : 'a' + (digit - 10));
        }
    }
}
