import java.math.BigInteger;
import java.util.ArrayList;
import java.util.List;

/**
 * The document once more, as literally as it can be written, with no thought of speed: what
 * Carryfree answers is compared with this.
 */
public final class Model {
    private static final BigInteger ZERO = BigInteger.ZERO;
    private static final BigInteger ONE = BigInteger.ONE;
    private static final BigInteger X = BigInteger.TWO;
    private static final List<List<BigInteger>> IRREDUCIBLES = irreduciblesTo(8);

    private final BigInteger[] cells = {ZERO, ZERO, ZERO, ZERO, ZERO, ZERO};
    private int acts = 0;
    private int refusals = 0;
    private int knocks = 0;

    // ==== polynomials

    static int topOf(BigInteger p) {
        return p.bitLength() - 1;
    }

    static BigInteger product(BigInteger a, BigInteger b) {
        BigInteger sum = ZERO;
        for (int i = 0; i < b.bitLength(); i++) {
            if (b.testBit(i)) {
                sum = sum.xor(a.shiftLeft(i));
            }
        }
        return sum;
    }

    static BigInteger[] divided(BigInteger a, BigInteger b) {
        BigInteger q = ZERO;
        BigInteger r = a;
        while (topOf(r) >= topOf(b)) {
            int by = topOf(r) - topOf(b);
            q = q.setBit(by);
            r = r.xor(b.shiftLeft(by));
        }
        return new BigInteger[] {q, r};
    }

    static boolean isPart(BigInteger a, BigInteger b) {
        return a.signum() == 0 ? b.signum() == 0 : divided(b, a)[1].signum() == 0;
    }

    /** GCD, FIRST BEZOUT, SECOND BEZOUT. */
    static BigInteger[] euclid(BigInteger a, BigInteger b) {
        List<List<BigInteger>> rows = new ArrayList<>();
        rows.add(new ArrayList<>(List.of(a, b)));
        rows.add(new ArrayList<>(List.of(ONE, ZERO)));
        rows.add(new ArrayList<>(List.of(ZERO, ONE)));
        int last = 1;
        while (rows.get(0).get(last).signum() != 0) {
            BigInteger q = divided(rows.get(0).get(last - 1), rows.get(0).get(last))[0];
            for (List<BigInteger> row : rows) {
                row.add(row.get(last - 1).xor(product(q, row.get(last))));
            }
            last++;
        }
        return new BigInteger[] {rows.get(0).get(last - 1), rows.get(1).get(last - 1), rows.get(2).get(last - 1)};
    }

    static boolean isIrreducible(BigInteger p) {
        if (topOf(p) < 1) {
            return false;
        }
        for (BigInteger part = X; topOf(part) < topOf(p); part = part.add(ONE)) {
            if (isPart(part, p)) {
                return false;
            }
        }
        return true;
    }

    private static List<List<BigInteger>> irreduciblesTo(int top) {
        List<List<BigInteger>> lists = new ArrayList<>();
        for (int degree = 0; degree <= top; degree++) {
            List<BigInteger> list = new ArrayList<>();
            for (long n = 1L << degree; n < 2L << degree; n++) {
                if (isIrreducible(BigInteger.valueOf(n))) {
                    list.add(BigInteger.valueOf(n));
                }
            }
            lists.add(list);
        }
        return lists;
    }

    // ==== cells

    private static void cell(int... told) {
        for (int c : told) {
            if (c < 0 || c > 5) {
                throw new IndexOutOfBoundsException();
            }
        }
    }

    private static void argument(boolean isGood) {
        if (!isGood) {
            throw new IllegalArgumentException();
        }
    }

    private int refused() {
        refusals++;
        return -9;
    }

    private int comes(int into, BigInteger p) {
        if (topOf(p) > 32) {
            return refused();
        }
        boolean isAnother = !cells[into].equals(p);
        cells[into] = p;
        acts++;
        return isAnother ? 1 : 0;
    }

    // ==== acts

    public int put(int cell, int digits) {
        cell(cell);
        return comes(cell, new BigInteger(Integer.toUnsignedString(digits)));
    }

    public int mono(int cell, int place) {
        cell(cell);
        argument(place >= 0 && place <= 32);
        return comes(cell, ZERO.setBit(place));
    }

    public boolean digit(int cell, int place, boolean is) {
        cell(cell);
        argument(place >= 0 && place <= 32);
        boolean was = cells[cell].testBit(place);
        comes(cell, is ? cells[cell].setBit(place) : cells[cell].clearBit(place));
        return was;
    }

    public boolean flip(int cell, int place) {
        cell(cell);
        argument(place >= 0 && place <= 32);
        comes(cell, cells[cell].flipBit(place));
        return cells[cell].testBit(place);
    }

    public int copy(int cell, int into) {
        cell(cell, into);
        return comes(into, cells[cell]);
    }

    public int swap(int cell, int other) {
        cell(cell, other);
        BigInteger kept = cells[cell];
        int answer = kept.equals(cells[other]) ? 0 : 1;
        cells[cell] = cells[other];
        cells[other] = kept;
        acts++;
        return answer;
    }

    public int end(int first, int second, boolean isGreatest, int into) {
        cell(first, second, into);
        return comes(into, isGreatest ? cells[first].max(cells[second]) : cells[first].min(cells[second]));
    }

    public int join(int first, int second, int how, int into) {
        cell(first, second, into);
        argument(how >= 0 && how <= 3);
        BigInteger p = ZERO;
        for (int place = 0; place <= 32; place++) {
            boolean a = cells[first].testBit(place);
            boolean b = cells[second].testBit(place);
            if (how == 0 && a != b || how == 1 && a && b || how == 2 && (a || b) || how == 3 && a && !b) {
                p = p.setBit(place);
            }
        }
        return comes(into, p);
    }

    public int times(int first, int second, int into) {
        cell(first, second, into);
        return comes(into, product(cells[first], cells[second]));
    }

    public int square(int cell, int into) {
        cell(cell, into);
        return comes(into, product(cells[cell], cells[cell]));
    }

    public int shift(int cell, int by, int into) {
        cell(cell, into);
        argument(by >= -32 && by <= 32);
        BigInteger p = ZERO;
        for (int place = 0; place <= 32; place++) {
            if (cells[cell].testBit(place) && place + by >= 0) {
                p = p.setBit(place + by);
            }
        }
        return comes(into, p);
    }

    public int quotient(int first, int second, int into) {
        cell(first, second, into);
        return cells[second].signum() == 0 ? refused() : comes(into, divided(cells[first], cells[second])[0]);
    }

    public int rest(int first, int second, int into) {
        cell(first, second, into);
        return cells[second].signum() == 0 ? refused() : comes(into, divided(cells[first], cells[second])[1]);
    }

    public int gcd(int first, int second, int into) {
        cell(first, second, into);
        return comes(into, euclid(cells[first], cells[second])[0]);
    }

    public int lcm(int first, int second, int into) {
        cell(first, second, into);
        if (cells[first].signum() == 0 || cells[second].signum() == 0) {
            return comes(into, ZERO);
        }
        BigInteger both = product(cells[first], cells[second]);
        return comes(into, divided(both, euclid(cells[first], cells[second])[0])[0]);
    }

    public int bezout(int first, int second, boolean isFirst, int into) {
        cell(first, second, into);
        return comes(into, euclid(cells[first], cells[second])[isFirst ? 1 : 2]);
    }

    public int derive(int cell, int into) {
        cell(cell, into);
        BigInteger p = ZERO;
        for (int place = 1; place <= 32; place += 2) {
            if (cells[cell].testBit(place)) {
                p = p.setBit(place - 1);
            }
        }
        return comes(into, p);
    }

    public int root(int cell, int into) {
        cell(cell, into);
        for (long n = 0; n < 1L << 17; n++) {
            BigInteger p = ZERO;
            for (int place = 0; place <= 16; place++) {
                p = (n >> place & 1) == 1 ? p.setBit(2 * place) : p;
            }
            if (p.equals(cells[cell])) {
                return comes(into, BigInteger.valueOf(n));
            }
        }
        return refused();
    }

    public int turn(int cell, int into) {
        cell(cell, into);
        BigInteger p = ZERO;
        for (int place = 0; place <= 32; place++) {
            p = cells[cell].testBit(place) ? p.setBit(topOf(cells[cell]) - place) : p;
        }
        return comes(into, p);
    }

    public int move(int cell, int into) {
        cell(cell, into);
        BigInteger p = ZERO;
        BigInteger power = ONE;
        for (int place = 0; place <= 32; place++) {
            p = cells[cell].testBit(place) ? p.xor(power) : p;
            power = product(power, BigInteger.valueOf(3));
        }
        return comes(into, p);
    }

    public int power(int cell, int times, int modulus, int into) {
        cell(cell, modulus, into);
        argument(times >= 0 && times <= 255);
        if (topOf(cells[modulus]) < 1 || topOf(cells[modulus]) > 12) {
            return refused();
        }
        BigInteger p = ONE;
        for (int k = 0; k < times; k++) {
            p = product(p, cells[cell]);
        }
        return comes(into, divided(p, cells[modulus])[1]);
    }

    public int nth(int degree, int rank, int into) {
        cell(into);
        argument(degree >= 1 && degree <= 8 && rank >= 0 && rank <= 40);
        List<BigInteger> list = IRREDUCIBLES.get(degree);
        return rank < list.size() ? comes(into, list.get(rank)) : refused();
    }

    public int field(int n, int into) {
        cell(into);
        argument(n >= 1 && n <= 5);
        BigInteger p = ONE;
        for (int degree = 1; degree <= n; degree++) {
            for (BigInteger part : IRREDUCIBLES.get(degree)) {
                p = n % degree == 0 ? product(p, part) : p;
            }
        }
        return comes(into, p);
    }

    public int again(int cell, int radix, int into) {
        cell(cell, into);
        argument(radix >= 2 && radix <= 36);
        return comes(into, new BigInteger(code(cell, radix), radix));
    }

    // ==== asked

    public int degree(int cell) {
        cell(cell);
        return topOf(cells[cell]);
    }

    public int low(int cell) {
        cell(cell);
        return cells[cell].getLowestSetBit();
    }

    public int weight(int cell) {
        cell(cell);
        return cells[cell].bitCount();
    }

    public boolean at(int cell, int place) {
        cell(cell);
        argument(place >= 0 && place <= 99);
        return cells[cell].testBit(place);
    }

    public int digits(int cell) {
        cell(cell);
        return cells[cell].intValue();
    }

    public String text(int cell) {
        cell(cell);
        String all = "";
        for (int place = 0; place <= 32; place++) {
            all = cells[cell].testBit(place) ? place + " " + all : all;
        }
        return all.isEmpty() ? "-" : all.trim();
    }

    public String code(int cell, int radix) {
        cell(cell);
        argument(radix >= 2 && radix <= 36);
        return cells[cell].toString(radix);
    }

    public int order(int first, int second) {
        cell(first, second);
        return cells[first].compareTo(cells[second]);
    }

    public boolean isSame(int first, int second) {
        cell(first, second);
        return cells[first].equals(cells[second]);
    }

    public int value(int cell, boolean isOne) {
        cell(cell);
        return (isOne ? cells[cell].bitCount() % 2 == 1 : cells[cell].testBit(0)) ? 1 : 0;
    }

    public boolean divides(int first, int second) {
        cell(first, second);
        return isPart(cells[first], cells[second]);
    }

    public boolean isFree(int cell) {
        cell(cell);
        if (cells[cell].signum() == 0) {
            return false;
        }
        for (BigInteger part = X; 2 * topOf(part) <= topOf(cells[cell]); part = part.add(ONE)) {
            if (isPart(product(part, part), cells[cell])) {
                return false;
            }
        }
        return true;
    }

    public int irreducible(int cell) {
        cell(cell);
        return topOf(cells[cell]) > 12 ? refused() : isIrreducible(cells[cell]) ? 1 : 0;
    }

    public int rank(int cell) {
        cell(cell);
        if (topOf(cells[cell]) > 8) {
            return refused();
        }
        return cells[cell].signum() == 0 ? -1 : IRREDUCIBLES.get(topOf(cells[cell])).indexOf(cells[cell]);
    }

    public String factors(int cell) {
        cell(cell);
        if (cells[cell].signum() == 0 || topOf(cells[cell]) > 8) {
            refused();
            return "!";
        }
        String all = "";
        BigInteger left = cells[cell];
        for (List<BigInteger> list : IRREDUCIBLES) {
            for (BigInteger part : list) {
                while (isPart(part, left)) {
                    all += " " + part;
                    left = divided(left, part)[0];
                }
            }
        }
        return all.trim();
    }

    public int period(int cell) {
        cell(cell);
        if (topOf(cells[cell]) < 1 || topOf(cells[cell]) > 8 || !cells[cell].testBit(0)) {
            return refused();
        }
        int e = 1;
        while (!isPart(cells[cell], ONE.setBit(e))) {
            e++;
        }
        return e;
    }

    public int many(int degree) {
        argument(degree >= 1 && degree <= 8);
        return IRREDUCIBLES.get(degree).size();
    }

    public int formula(int degree) {
        argument(degree >= 1 && degree <= 8);
        int[] m = {0, 1, -1, -1, 0, -1, 1, -1, 0};
        int sum = 0;
        for (int d = 1; d <= degree; d++) {
            sum += degree % d == 0 ? m[d] * (1 << degree / d) : 0;
        }
        return sum / degree;
    }

    public int find(int cell, boolean isLast) {
        cell(cell);
        List<BigInteger> list = List.of(cells);
        return isLast ? list.lastIndexOf(cells[cell]) : list.indexOf(cells[cell]);
    }

    // ==== the whole

    public int house(int what) {
        argument(what >= 0 && what <= 4);
        int zeros = 0;
        int weights = 0;
        for (BigInteger p : cells) {
            zeros += p.signum() == 0 ? 1 : 0;
            weights += p.bitCount();
        }
        return new int[] {acts, refusals, knocks, zeros, weights}[what];
    }

    public int knock() {
        return ++knocks;
    }

    public boolean isSound() {
        BigInteger[] e = euclid(cells[0], cells[1]);
        boolean is = e[0].equals(product(cells[0], e[1]).xor(product(cells[1], e[2])));
        for (BigInteger p : cells) {
            is &= topOf(p) <= 32 && p.getLowestSetBit() <= topOf(p);
        }
        return is;
    }

    public long digest() {
        List<Integer> all = new ArrayList<>();
        for (int c = 0; c <= 5; c++) {
            all.addAll(List.of(digits(c), degree(c), low(c), weight(c), find(c, true)));
        }
        for (int c = 0; c <= 4; c++) {
            all.add(order(c, c + 1));
        }
        for (int what = 0; what <= 4; what++) {
            all.add(house(what));
        }
        all.add(isSound() ? 1 : 0);
        long d = 7686;
        for (int v : all) {
            d = d * 31 + v;
        }
        return d;
    }
}
