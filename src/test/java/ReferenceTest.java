import java.math.BigInteger;
import java.util.ArrayList;
import java.util.Arrays;
import java.util.List;
import java.util.Random;

/**
 * Runs of calls, drawn from fixed seeds, answered both by CubicForms and by a
 * model that follows the words of the document with numbers of any size.
 */
public final class ReferenceTest {
    private static int wrong = 0;

    public static void main(String[] args) {
        for (int seed = 1; seed <= 400; seed++) {
            new Run(seed).play();
        }
        checkSubstitutionsAgainstDefinition();
        checkLargeForms();
        checkTable();
        System.out.println(wrong == 0 ? "the answers are those of the model" : wrong + " answers differ from the model");
        if (wrong != 0) {
            System.exit(1);
        }
    }

    private static void due(String call, long got, long want) {
        if (got != want) {
            wrong++;
            if (wrong < 100) {
                System.out.println(call + " answered " + got + ", due is " + want);
            }
        }
    }

    /** One object of each kind and the same calls on both. */
    private static final class Run {
        private final int seed;
        private final Random random;
        private final CubicForms real = new CubicForms();
        private final Model model = new Model();
        private int calls = 0;

        Run(int seed) {
            this.seed = seed;
            this.random = new Random(seed);
        }

        void play() {
            // Some runs keep the store nearly full, so that FULL meets the other errors.
            boolean crowded = seed % 5 == 0;
            for (int i = 0; i < (crowded ? 58 : 4); i++) {
                add();
            }
            while (calls < 350) {
                step(crowded);
            }
            for (int i = 0; i < model.forms.size(); i++) {
                for (int k = 0; k < 4 && calls < 490; k++) {
                    say("coefficient", real.coefficient(i, k), model.coefficient(i, k), i, k);
                }
            }
            for (int i = 0; i < 6; i++) {
                for (int k = 0; k < 3; k++) {
                    say("element", real.element(i, k), model.element(i, k), i, k);
                }
            }
        }

        private void say(String name, long got, long want, int... arguments) {
            calls++;
            due("seed " + seed + " call " + calls + ": " + name + Arrays.toString(arguments), got, want);
        }

        private int between(int low, int high) {
            return low + random.nextInt(high - low + 1);
        }

        private int odd(int usual, int chanceIn) {
            if (random.nextInt(chanceIn) != 0) {
                return usual;
            }
            int[] strange = {-1, -2, 60, 61, 6, 3, 4, 100, -100, 101, -101, 300, -300, 301, -301,
                1000, -1000, 1001, -1001, Integer.MAX_VALUE, Integer.MIN_VALUE, 1 << 30, 1 << 16, 65537};
            return strange[random.nextInt(strange.length)];
        }

        private int form() {
            return odd(random.nextInt(Math.max(1, model.forms.size())), 40);
        }

        private int register() {
            return odd(random.nextInt(6), 30);
        }

        private int prime() {
            int[] some = {2, 2, 2, 3, 3, 3, 5, 5, 7, 7, 11, 13, 17, 19, 23, 29, 31, 97, 101, 499, 991, 997,
                1, 0, -2, -3, 4, 9, 15, 25, 961, 993, 999, 1009};
            return odd(some[random.nextInt(some.length)], 60);
        }

        private void add() {
            int[] f = coefficients();
            say("addForm", real.addForm(f[0], f[1], f[2], f[3]), model.addForm(f[0], f[1], f[2], f[3]), f);
        }

        private int[] coefficients() {
            int[] sizes = {1, 2, 3, 5, 9, 20, 60, 300};
            int size = sizes[random.nextInt(sizes.length)];
            int[] f = new int[4];
            for (int i = 0; i < 4; i++) {
                f[i] = between(-size, size);
            }
            int kind = random.nextInt(8);
            int p = new int[] {2, 3, 5, 7}[random.nextInt(4)];
            if (kind == 0) {
                f[0] *= p * p;
                f[1] *= p;
            } else if (kind == 1) {
                f[3] *= p * p;
                f[2] *= p;
            } else if (kind == 2) {
                for (int i = 0; i < 4; i++) {
                    f[i] *= p;
                }
            } else if (kind == 3) {
                // (x + m y) times a quadratic form
                int m = between(-4, 4);
                f = new int[] {f[0], f[1] + m * f[0], f[2] + m * f[1], m * f[2]};
            } else if (kind == 4) {
                // a steep cubic with three real roots
                f = new int[] {between(1, 3), between(-9, 9), -between(50, 300), between(-40, 40)};
            }
            for (int i = 0; i < 4; i++) {
                if (random.nextInt(4) != 0 && Math.abs(f[i]) > 300) {
                    f[i] = f[i] % 301;
                }
                f[i] = odd(f[i], 200);
            }
            return f;
        }

        private void step(boolean crowded) {
            switch (random.nextInt(26)) {
                case 0: case 1:
                    add();
                    break;
                case 2:
                    if (random.nextInt(crowded ? 60 : 8) == 0) {
                        say("clearForms", real.clearForms(), model.clearForms());
                    }
                    break;
                case 3: case 4: case 5: case 6: case 7: case 8:
                    askForm();
                    break;
                case 9: case 10:
                    substitute();
                    break;
                case 11: case 12: case 13: case 14: case 15: case 16:
                    askRing();
                    break;
                case 17: case 18: case 19: case 20: case 21: case 22:
                    askPrime();
                    break;
                default:
                    askCanonical();
                    break;
            }
        }

        private void askForm() {
            int f = form();
            int k = odd(random.nextInt(4), 20);
            int x = odd(between(-1000, 1000), 20);
            int y = odd(between(-1000, 1000), 20);
            switch (random.nextInt(5)) {
                case 0:
                    say("coefficient", real.coefficient(f, k), model.coefficient(f, k), f, k);
                    break;
                case 1:
                    say("discriminant", real.discriminant(f), model.discriminant(f), f);
                    break;
                case 2:
                    say("hessian", real.hessian(f, k), model.hessian(f, k), f, k);
                    break;
                case 3:
                    say("value", real.value(f, x, y), model.value(f, x, y), f, x, y);
                    break;
                default:
                    say("isReducible", real.isReducible(f), model.isReducible(f), f);
                    break;
            }
        }

        private void substitute() {
            int f = form();
            int size = random.nextInt(4) == 0 ? 10 : 2;
            int[] m = {1, 0, 0, 1};
            for (int i = 0; i < 3; i++) {
                int k = between(-size, size);
                if (random.nextBoolean()) {
                    m = new int[] {m[0], m[1] + k * m[0], m[2], m[3] + k * m[2]};
                } else {
                    m = new int[] {m[1], m[0], m[3], m[2]};
                }
            }
            for (int i = 0; i < 4; i++) {
                m[i] = odd(m[i], 60);
            }
            say("substitute", real.substitute(f, m[0], m[1], m[2], m[3]),
                    model.substitute(f, m[0], m[1], m[2], m[3]), f, m[0], m[1], m[2], m[3]);
        }

        private void askRing() {
            int f = form();
            int r = register();
            int r2 = register();
            int r3 = register();
            int size = random.nextInt(3) == 0 ? 100 : 3;
            int u = odd(between(-size, size), 40);
            int v = odd(between(-size, size), 40);
            int t = odd(between(-size, size), 40);
            int k = odd(random.nextInt(3), 20);
            switch (random.nextInt(8)) {
                case 0: case 1:
                    say("setElement", real.setElement(r, u, v, t), model.setElement(r, u, v, t), r, u, v, t);
                    break;
                case 2:
                    say("element", real.element(r, k), model.element(r, k), r, k);
                    break;
                case 3:
                    say("multiply", real.multiply(f, r, r2, r3), model.multiply(f, r, r2, r3), f, r, r2, r3);
                    break;
                case 4:
                    say("trace", real.trace(f, r), model.trace(f, r), f, r);
                    break;
                case 5:
                    say("norm", real.norm(f, r), model.norm(f, r), f, r);
                    break;
                case 6:
                    say("traceDeterminant", real.traceDeterminant(f), model.traceDeterminant(f), f);
                    break;
                default:
                    say("elementIndex", real.elementIndex(f, r), model.elementIndex(f, r), f, r);
                    break;
            }
        }

        private void askPrime() {
            int f = form();
            int p = prime();
            switch (random.nextInt(3)) {
                case 0:
                    say("splitting", real.splitting(f, p), model.splitting(f, p), f, p);
                    break;
                case 1:
                    say("isMaximalAt", real.isMaximalAt(f, p), model.isMaximalAt(f, p), f, p);
                    break;
                default:
                    say("overring", real.overring(f, p), model.overring(f, p), f, p);
                    break;
            }
        }

        private void askCanonical() {
            int f = form();
            int g = form();
            switch (random.nextInt(4)) {
                case 0:
                    say("canonical", real.canonical(f), model.canonical(f), f);
                    break;
                case 1:
                    say("areEquivalent", real.areEquivalent(f, g), model.areEquivalent(f, g), f, g);
                    break;
                case 2:
                    say("automorphismCount", real.automorphismCount(f), model.automorphismCount(f), f);
                    break;
                default:
                    say("maximalOverring", real.maximalOverring(f), model.maximalOverring(f), f);
                    break;
            }
        }
    }

    /**
     * Equivalence and automorphisms by all substitutions at all, without a
     * reduction: the columns are vectors at which the Hessian has known values,
     * and such vectors are bounded.
     */
    private static void checkSubstitutionsAgainstDefinition() {
        Random random = new Random(77);
        int pairs = 0;
        while (pairs < 3000) {
            long[] f = new long[4];
            long[] g = new long[4];
            int size = 1 + random.nextInt(5);
            for (int i = 0; i < 4; i++) {
                f[i] = random.nextInt(2 * size + 1) - size;
                g[i] = random.nextInt(2 * size + 1) - size;
            }
            if (random.nextInt(3) == 0) {
                long k = random.nextInt(7) - 3;
                g = new long[] {f[0], 3 * f[0] * k + f[1], 3 * f[0] * k * k + 2 * f[1] * k + f[2],
                    f[0] * k * k * k + f[1] * k * k + f[2] * k + f[3]};
                g = random.nextBoolean() ? new long[] {g[3], g[2], g[1], g[0]} : g;
            }
            if (disc(f) <= 0 || disc(g) <= 0 || Math.abs(g[3]) > 300 || Math.abs(g[0]) > 300) {
                continue;
            }
            pairs++;
            CubicForms x = new CubicForms();
            x.addForm((int) f[0], (int) f[1], (int) f[2], (int) f[3]);
            x.addForm((int) g[0], (int) g[1], (int) g[2], (int) g[3]);
            String what = Arrays.toString(f) + " and " + Arrays.toString(g);
            due("areEquivalent of " + what, x.areEquivalent(0, 1), countSubstitutions(f, g) > 0 ? 1 : 0);
            due("automorphismCount of " + what, x.automorphismCount(0), countSubstitutions(f, f));
            due("automorphismCount of " + what, x.automorphismCount(1), countSubstitutions(g, g));
        }
    }

    private static long disc(long[] f) {
        long a = f[0], b = f[1], c = f[2], d = f[3];
        return b * b * c * c - 4 * a * c * c * c - 4 * b * b * b * d - 27 * a * a * d * d + 18 * a * b * c * d;
    }

    private static long[] hess(long[] f) {
        return new long[] {f[1] * f[1] - 3 * f[0] * f[2], f[1] * f[2] - 9 * f[0] * f[3], f[2] * f[2] - 3 * f[1] * f[3]};
    }

    private static long at(long[] f, long x, long y) {
        return f[0] * x * x * x + f[1] * x * x * y + f[2] * x * y * y + f[3] * y * y * y;
    }

    private static List<long[]> columns(long[] f, long hessianValue, long formValue) {
        long[] h = hess(f);
        long three = 3 * disc(f);
        long maxX = (long) Math.sqrt(4.0 * h[2] * hessianValue / three) + 1;
        long maxY = (long) Math.sqrt(4.0 * h[0] * hessianValue / three) + 1;
        List<long[]> found = new ArrayList<>();
        for (long x = -maxX; x <= maxX; x++) {
            for (long y = -maxY; y <= maxY; y++) {
                if (h[0] * x * x + h[1] * x * y + h[2] * y * y == hessianValue && at(f, x, y) == formValue) {
                    found.add(new long[] {x, y});
                }
            }
        }
        return found;
    }

    private static int countSubstitutions(long[] f, long[] g) {
        if (disc(f) != disc(g)) {
            return 0;
        }
        long[] h = hess(g);
        int count = 0;
        for (long[] first : columns(f, h[0], g[0])) {
            for (long[] second : columns(f, h[2], g[3])) {
                long p = first[0], r = first[1], q = second[0], s = second[1];
                // Two more values fix a cubic form whose outer coefficients are known.
                if (Math.abs(p * s - q * r) == 1 && at(f, p + q, r + s) == at(g, 1, 1)
                        && at(f, p - q, r - s) == at(g, 1, -1)) {
                    count++;
                }
            }
        }
        return count;
    }

    /** Forms with the largest coefficients, where 64 bits are nearest to their end. */
    private static void checkLargeForms() {
        int[] edge = {-300, -299, -298, -1, 0, 1, 297, 299, 300};
        CubicForms x = new CubicForms();
        Model m = new Model();
        int calls = 0;
        for (int a : edge) {
            for (int b : edge) {
                for (int c : edge) {
                    for (int d : edge) {
                        if (calls % 500 == 0) {
                            x = new CubicForms();
                            m = new Model();
                        }
                        x.clearForms();
                        m.clearForms();
                        x.addForm(a, b, c, d);
                        m.addForm(a, b, c, d);
                        String what = a + " " + b + " " + c + " " + d;
                        due("discriminant of " + what, x.discriminant(0), m.discriminant(0));
                        due("canonical of " + what, x.canonical(0), m.canonical(0));
                        due("maximalOverring of " + what, x.maximalOverring(0), m.maximalOverring(0));
                        for (int i = 0; i < m.forms.size(); i++) {
                            for (int k = 0; k < 4; k++) {
                                due("coefficient after " + what, x.coefficient(i, k), m.coefficient(i, k));
                            }
                        }
                        calls += 20;
                    }
                }
            }
        }
    }

    private static void checkTable() {
        List<Integer> forms = new ArrayList<>();
        List<Integer> fields = new ArrayList<>();
        for (int a = -9; a <= 9; a++) {
            for (int b = -9; b <= 9; b++) {
                for (int c = -9; c <= 9; c++) {
                    for (int d = -9; d <= 9; d++) {
                        long disc = disc(new long[] {a, b, c, d});
                        if (disc < 1 || disc > 1000) {
                            continue;
                        }
                        BigInteger[] f = Model.form(a, b, c, d);
                        if (Model.hasRoot(f) || !Arrays.equals(Model.canonicalOf(f), f)) {
                            continue;
                        }
                        forms.add((int) disc);
                        if (Model.leastGrowth(f) == null) {
                            fields.add((int) disc);
                        }
                    }
                }
            }
        }
        fields.sort(null);
        CubicForms x = new CubicForms();
        for (int limit = -2; limit <= 1003; limit++) {
            if (limit % 200 == 0) {
                x = new CubicForms();
            }
            int bound = limit;
            boolean bad = limit < 1 || limit > 1000;
            due("countForms(" + limit + ")", x.countForms(limit), bad ? -10003 : forms.stream().filter(e -> e <= bound).count());
            due("countFields(" + limit + ")", x.countFields(limit), bad ? -10003 : fields.stream().filter(e -> e <= bound).count());
        }
        x = new CubicForms();
        for (int k = 0; k < 40; k++) {
            due("fieldDiscriminant(" + k + ")", x.fieldDiscriminant(k), k < fields.size() ? fields.get(k) : -10008);
        }
    }

    /** The document's words over BigInteger, with no regard to speed. */
    private static final class Model {
        private static final long NO_VALUE = Long.MIN_VALUE;
        final List<BigInteger[]> forms = new ArrayList<>();
        final int[][] registers = new int[6][3];

        static BigInteger big(long n) {
            return BigInteger.valueOf(n);
        }

        static BigInteger[] form(long a, long b, long c, long d) {
            return new BigInteger[] {big(a), big(b), big(c), big(d)};
        }

        static BigInteger mul(long k, BigInteger... factors) {
            BigInteger product = big(k);
            for (BigInteger factor : factors) {
                product = product.multiply(factor);
            }
            return product;
        }

        static BigInteger sum(BigInteger... terms) {
            BigInteger total = BigInteger.ZERO;
            for (BigInteger term : terms) {
                total = total.add(term);
            }
            return total;
        }

        static boolean divides(long p, BigInteger n) {
            return n.mod(big(p)).signum() == 0;
        }

        static BigInteger discOf(BigInteger[] f) {
            BigInteger a = f[0], b = f[1], c = f[2], d = f[3];
            return sum(mul(1, b, b, c, c), mul(-4, a, c, c, c), mul(-4, b, b, b, d), mul(-27, a, a, d, d), mul(18, a, b, c, d));
        }

        static BigInteger[] hessianOf(BigInteger[] f) {
            BigInteger a = f[0], b = f[1], c = f[2], d = f[3];
            return new BigInteger[] {sum(mul(1, b, b), mul(-3, a, c)), sum(mul(1, b, c), mul(-9, a, d)), sum(mul(1, c, c), mul(-3, b, d))};
        }

        static BigInteger valueOf(BigInteger[] f, BigInteger x, BigInteger y) {
            return sum(mul(1, f[0], x, x, x), mul(1, f[1], x, x, y), mul(1, f[2], x, y, y), mul(1, f[3], y, y, y));
        }

        /** Multiplies out: a polynomial is the list of its coefficients from x^n to y^n. */
        static BigInteger[] times(BigInteger[] f, BigInteger[] g) {
            BigInteger[] product = new BigInteger[f.length + g.length - 1];
            Arrays.fill(product, BigInteger.ZERO);
            for (int i = 0; i < f.length; i++) {
                for (int j = 0; j < g.length; j++) {
                    product[i + j] = product[i + j].add(f[i].multiply(g[j]));
                }
            }
            return product;
        }

        static BigInteger[] substituted(BigInteger[] f, BigInteger p, BigInteger q, BigInteger r, BigInteger s) {
            BigInteger[] x = {p, q};
            BigInteger[] y = {r, s};
            BigInteger[][] monomials = {times(times(x, x), x), times(times(x, x), y), times(times(x, y), y), times(times(y, y), y)};
            BigInteger[] result = form(0, 0, 0, 0);
            for (int i = 0; i < 4; i++) {
                for (int k = 0; k < 4; k++) {
                    result[k] = result[k].add(f[i].multiply(monomials[i][k]));
                }
            }
            return result;
        }

        static BigInteger[] substituted(BigInteger[] f, long p, long q, long r, long s) {
            return substituted(f, big(p), big(q), big(r), big(s));
        }

        static boolean isReduced(BigInteger[] f) {
            BigInteger[] h = hessianOf(f);
            return h[1].abs().compareTo(h[0]) <= 0 && h[0].compareTo(h[2]) <= 0;
        }

        static BigInteger[] reduced(BigInteger[] f) {
            while (!isReduced(f)) {
                BigInteger[] h = hessianOf(f);
                if (h[2].compareTo(h[0]) < 0) {
                    f = substituted(f, 0, 1, 1, 0);
                    continue;
                }
                // the rounded quotient towards zero, one at least
                BigInteger k = h[1].abs().divide(h[0].shiftLeft(1)).max(BigInteger.ONE);
                f = substituted(f, BigInteger.ONE, h[1].signum() > 0 ? k.negate() : k, BigInteger.ZERO, BigInteger.ONE);
            }
            return f;
        }

        static int compare(BigInteger[] f, BigInteger[] g) {
            for (int k = 0; k < 4; k++) {
                if (!f[k].equals(g[k])) {
                    return f[k].compareTo(g[k]);
                }
            }
            return 0;
        }

        /** Goes on from each reduced form that it finds, so nothing hangs on the first of them. */
        static BigInteger[] canonicalOf(BigInteger[] f) {
            List<BigInteger[]> found = new ArrayList<>();
            found.add(reduced(f));
            BigInteger[] least = found.get(0);
            for (int i = 0; i < found.size(); i++) {
                for (int m = 0; m < 81; m++) {
                    long p = m / 27 - 1, q = m / 9 % 3 - 1, r = m / 3 % 3 - 1, s = m % 3 - 1;
                    if (Math.abs(p * s - q * r) != 1) {
                        continue;
                    }
                    BigInteger[] g = substituted(found.get(i), p, q, r, s);
                    if (isReduced(g) && found.stream().noneMatch(e -> Arrays.equals(e, g))) {
                        found.add(g);
                        least = compare(g, least) < 0 ? g : least;
                    }
                }
            }
            return least;
        }

        static boolean hasRoot(BigInteger[] f) {
            long[] g = {f[0].longValueExact(), f[1].longValueExact(), f[2].longValueExact(), f[3].longValueExact()};
            if (g[0] == 0) {
                return true;
            }
            for (long y = 1; y <= Math.abs(g[0]); y++) {
                for (long x = -Math.abs(g[3]); x <= Math.abs(g[3]); x++) {
                    if (at(g, x, y) == 0) {
                        return true;
                    }
                }
            }
            return false;
        }

        static BigInteger[] atPoint(BigInteger[] f, int p, int t) {
            return t < p ? substituted(f, 1, 0, t, 1) : substituted(f, 0, 1, 1, 0);
        }

        static boolean divisible(BigInteger[] f, int p) {
            return divides(p, f[0]) && divides(p, f[1]) && divides(p, f[2]) && divides(p, f[3]);
        }

        static BigInteger[] grown(BigInteger[] f, int p) {
            BigInteger prime = big(p);
            if (divisible(f, p)) {
                return new BigInteger[] {f[0].divide(prime), f[1].divide(prime), f[2].divide(prime), f[3].divide(prime)};
            }
            for (int t = 0; t <= p; t++) {
                BigInteger[] g = atPoint(f, p, t);
                if (divides((long) p * p, g[0]) && divides(p, g[1])) {
                    return new BigInteger[] {g[0].divide(prime).divide(prime), g[1].divide(prime), g[2], g[3].multiply(prime)};
                }
            }
            return null;
        }

        static BigInteger[] leastGrowth(BigInteger[] f) {
            BigInteger disc = discOf(f);
            for (int p = 2; p <= 997; p++) {
                // Only this keeps the model from trying 168 primes each time; grown itself does without.
                if (isPrime(p) && divides((long) p * p, disc)) {
                    BigInteger[] g = grown(f, p);
                    if (g != null) {
                        return g;
                    }
                }
            }
            return null;
        }

        static boolean isPrime(int p) {
            return p >= 2 && p <= 997 && big(p).isProbablePrime(30);
        }

        private boolean no(int form) {
            return form < 0 || form >= forms.size();
        }

        private static boolean in(BigInteger n, long bound) {
            return n.abs().compareTo(big(bound)) <= 0;
        }

        private static boolean in(int n, int bound) {
            return n >= -bound && n <= bound;
        }

        private int keep(BigInteger[] f, int tooLarge) {
            for (BigInteger e : f) {
                if (!in(e, 300)) {
                    return tooLarge;
                }
            }
            if (forms.size() == 60) {
                return -10004;
            }
            forms.add(f);
            return forms.size() - 1;
        }

        int addForm(int a, int b, int c, int d) {
            return keep(form(a, b, c, d), -10003);
        }

        int clearForms() {
            int n = forms.size();
            forms.clear();
            return n;
        }

        int coefficient(int form, int k) {
            return no(form) ? -10001 : k < 0 || k > 3 ? -10003 : forms.get(form)[k].intValueExact();
        }

        long discriminant(int form) {
            return no(form) ? NO_VALUE : discOf(forms.get(form)).longValueExact();
        }

        long hessian(int form, int k) {
            return no(form) || k < 0 || k > 2 ? NO_VALUE : hessianOf(forms.get(form))[k].longValueExact();
        }

        long value(int form, int x, int y) {
            return no(form) || !in(x, 1000) || !in(y, 1000) ? NO_VALUE : valueOf(forms.get(form), big(x), big(y)).longValueExact();
        }

        int substitute(int form, int p, int q, int r, int s) {
            if (no(form)) {
                return -10001;
            }
            if (!in(p, 100) || !in(q, 100) || !in(r, 100) || !in(s, 100) || Math.abs((long) p * s - (long) q * r) != 1) {
                return -10003;
            }
            return keep(substituted(forms.get(form), p, q, r, s), -10005);
        }

        int isReducible(int form) {
            return no(form) ? -10001 : hasRoot(forms.get(form)) ? 1 : 0;
        }

        int canonical(int form) {
            if (no(form)) {
                return -10001;
            }
            return discOf(forms.get(form)).signum() <= 0 ? -10006 : keep(canonicalOf(forms.get(form)), -10005);
        }

        int areEquivalent(int first, int second) {
            if (no(first) || no(second)) {
                return -10001;
            }
            BigInteger[] f = forms.get(first);
            BigInteger[] g = forms.get(second);
            if (discOf(f).signum() <= 0 || discOf(g).signum() <= 0) {
                return -10006;
            }
            return Arrays.equals(canonicalOf(f), canonicalOf(g)) ? 1 : 0;
        }

        int automorphismCount(int form) {
            if (no(form)) {
                return -10001;
            }
            if (discOf(forms.get(form)).signum() <= 0) {
                return -10006;
            }
            BigInteger[] f = reduced(forms.get(form));
            int count = 0;
            for (int m = 0; m < 625; m++) {
                long p = m / 125 - 2, q = m / 25 % 5 - 2, r = m / 5 % 5 - 2, s = m % 5 - 2;
                if (Math.abs(p * s - q * r) == 1 && Arrays.equals(substituted(f, p, q, r, s), f)) {
                    count++;
                }
            }
            return count;
        }

        private static boolean noRegister(int register) {
            return register < 0 || register > 5;
        }

        int setElement(int register, int u, int v, int t) {
            if (noRegister(register)) {
                return -10002;
            }
            if (!in(u, 100) || !in(v, 100) || !in(t, 100)) {
                return -10003;
            }
            int[] next = {u, v, t};
            int changed = Arrays.equals(registers[register], next) ? 0 : 1;
            registers[register] = next;
            return changed;
        }

        int element(int register, int k) {
            return noRegister(register) ? -10002 : k < 0 || k > 2 ? -10003 : registers[register][k];
        }

        /** The product of two elements by the nine products of 1, w and z. */
        private static BigInteger[] product(BigInteger[] f, BigInteger[] x, BigInteger[] y) {
            BigInteger a = f[0], b = f[1], c = f[2], d = f[3], o = BigInteger.ZERO, i = BigInteger.ONE;
            BigInteger[] one = {i, o, o}, w = {o, i, o}, z = {o, o, i};
            BigInteger[] ww = {mul(-1, a, c), b, a.negate()};
            BigInteger[] zz = {mul(-1, b, d), d, c.negate()};
            BigInteger[] wz = {mul(-1, a, d), o, o};
            BigInteger[][][] table = {{one, w, z}, {w, ww, wz}, {z, wz, zz}};
            BigInteger[] result = {o, o, o};
            for (int m = 0; m < 3; m++) {
                for (int n = 0; n < 3; n++) {
                    for (int k = 0; k < 3; k++) {
                        result[k] = result[k].add(mul(1, x[m], y[n], table[m][n][k]));
                    }
                }
            }
            return result;
        }

        private static BigInteger[] unit(int k) {
            BigInteger[] e = {BigInteger.ZERO, BigInteger.ZERO, BigInteger.ZERO};
            e[k] = BigInteger.ONE;
            return e;
        }

        private BigInteger[] get(int register) {
            int[] e = registers[register];
            return new BigInteger[] {big(e[0]), big(e[1]), big(e[2])};
        }

        private static BigInteger traceOf(BigInteger[] f, BigInteger[] e) {
            return sum(product(f, e, unit(0))[0], product(f, e, unit(1))[1], product(f, e, unit(2))[2]);
        }

        private static BigInteger determinant(BigInteger[][] m) {
            return sum(mul(1, m[0][0], m[1][1], m[2][2]), mul(1, m[0][1], m[1][2], m[2][0]), mul(1, m[0][2], m[1][0], m[2][1]),
                    mul(-1, m[0][2], m[1][1], m[2][0]), mul(-1, m[0][1], m[1][0], m[2][2]), mul(-1, m[0][0], m[1][2], m[2][1]));
        }

        int multiply(int form, int first, int second, int target) {
            if (no(form)) {
                return -10001;
            }
            if (noRegister(first) || noRegister(second) || noRegister(target)) {
                return -10002;
            }
            BigInteger[] e = product(forms.get(form), get(first), get(second));
            if (!in(e[0], 100) || !in(e[1], 100) || !in(e[2], 100)) {
                return -10005;
            }
            registers[target] = new int[] {e[0].intValueExact(), e[1].intValueExact(), e[2].intValueExact()};
            return 1;
        }

        long trace(int form, int register) {
            return no(form) || noRegister(register) ? NO_VALUE : traceOf(forms.get(form), get(register)).longValueExact();
        }

        long norm(int form, int register) {
            if (no(form) || noRegister(register)) {
                return NO_VALUE;
            }
            BigInteger[] f = forms.get(form);
            BigInteger[] e = get(register);
            return determinant(new BigInteger[][] {product(f, e, unit(0)), product(f, e, unit(1)), product(f, e, unit(2))}).longValueExact();
        }

        long traceDeterminant(int form) {
            if (no(form)) {
                return NO_VALUE;
            }
            BigInteger[] f = forms.get(form);
            BigInteger[][] m = new BigInteger[3][3];
            for (int i = 0; i < 3; i++) {
                for (int j = 0; j < 3; j++) {
                    m[i][j] = traceOf(f, product(f, unit(i), unit(j)));
                }
            }
            return determinant(m).longValueExact();
        }

        long elementIndex(int form, int register) {
            if (no(form) || noRegister(register)) {
                return NO_VALUE;
            }
            BigInteger[] e = get(register);
            BigInteger[] square = product(forms.get(form), e, e);
            return e[1].multiply(square[2]).subtract(e[2].multiply(square[1])).abs().longValueExact();
        }

        int splitting(int form, int p) {
            if (no(form)) {
                return -10001;
            }
            if (!isPrime(p)) {
                return -10003;
            }
            BigInteger[] f = forms.get(form);
            if (divisible(f, p)) {
                return 0;
            }
            int simple = 0;
            int multiple = 0;
            for (int t = 0; t <= p; t++) {
                BigInteger[] g = atPoint(f, p, t);
                if (divides(p, g[0])) {
                    if (divides(p, g[1])) {
                        multiple++;
                    } else {
                        simple++;
                    }
                }
            }
            int roots = simple + multiple;
            if (roots == 0) {
                return 3;
            }
            if (roots == 1 && multiple == 0) {
                return 21;
            }
            if (roots == 3) {
                return 111;
            }
            return multiple > 0 && roots > 1 ? 121 : multiple == 1 ? 13 : -1;
        }

        int isMaximalAt(int form, int p) {
            return no(form) ? -10001 : !isPrime(p) ? -10003 : grown(forms.get(form), p) == null ? 1 : 0;
        }

        int overring(int form, int p) {
            if (no(form)) {
                return -10001;
            }
            if (!isPrime(p)) {
                return -10003;
            }
            BigInteger[] g = grown(forms.get(form), p);
            return g == null ? -10008 : keep(g, -10005);
        }

        int maximalOverring(int form) {
            if (no(form)) {
                return -10001;
            }
            BigInteger[] f = forms.get(form);
            if (discOf(f).signum() <= 0) {
                return -10006;
            }
            if (hasRoot(f)) {
                return -10007;
            }
            BigInteger[] last = null;
            BigInteger[] next = canonicalOf(f);
            while (next != null) {
                last = next;
                BigInteger[] g = leastGrowth(last);
                next = g == null ? null : canonicalOf(g);
            }
            return keep(last, -10005);
        }
    }
}
