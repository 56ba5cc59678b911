/**
 * Binary cubic forms with integer coefficients and the cubic rings that
 * correspond to them (the Delone-Faddeev correspondence).
 */
public final class CubicForms {
    public static final int NO_SUCH_FORM = -10001;
    public static final int NO_SUCH_REGISTER = -10002;
    public static final int BAD_VALUE = -10003;
    public static final int FULL = -10004;
    public static final int OVERFLOW = -10005;
    public static final int NOT_POSITIVE = -10006;
    public static final int REDUCIBLE = -10007;
    public static final int NONE = -10008;
    public static final long NO_VALUE = Long.MIN_VALUE;

    private static final int MAX_FORMS = 60;
    private static final int COEFFICIENTS = 4;
    private static final int MAX_COEFFICIENT = 300;
    private static final int MAX_ARGUMENT = 1000;
    private static final int MAX_ENTRY = 100;
    private static final int REGISTERS = 6;
    private static final int PARTS = 3;
    private static final int MAX_PART = 100;
    private static final int MAX_PRIME = 997;

    /** The coefficients of the stored forms, four for each form. */
    private final int[] coefficients = new int[MAX_FORMS * COEFFICIENTS];
    private int formCount = 0;
    /** The integers of the registers, three for each register. */
    private final int[] parts = new int[REGISTERS * PARTS];

    // What a call works on; made once, so that calls make no objects.
    private final Cubic work = new Cubic();
    private final Cubic other = new Cubic();
    private final RingElement left = new RingElement();
    private final RingElement right = new RingElement();
    private final Workshop workshop = new Workshop();
    private final Ring ring = new Ring();
    private final FieldTable table = new FieldTable();

    public CubicForms() {
    }

    // ---- forms

    public int addForm(int a, int b, int c, int d) {
        work.set(a, b, c, d);
        if (!work.fitsStore()) {
            return BAD_VALUE;
        }
        return store(work);
    }

    public int clearForms() {
        int removed = formCount;
        formCount = 0;
        return removed;
    }

    public int coefficient(int form, int k) {
        if (!isForm(form)) {
            return NO_SUCH_FORM;
        }
        if (k < 0 || k >= COEFFICIENTS) {
            return BAD_VALUE;
        }
        return coefficients[form * COEFFICIENTS + k];
    }

    public long discriminant(int form) {
        return load(form, work) ? work.disc() : NO_VALUE;
    }

    public long hessian(int form, int k) {
        if (!load(form, work)) {
            return NO_VALUE;
        }
        switch (k) {
            case 0:
                return work.hessianP();
            case 1:
                return work.hessianQ();
            case 2:
                return work.hessianR();
            default:
                return NO_VALUE;
        }
    }

    public long value(int form, int x, int y) {
        if (!load(form, work) || !isWithin(x, MAX_ARGUMENT) || !isWithin(y, MAX_ARGUMENT)) {
            return NO_VALUE;
        }
        return work.valueAt(x, y);
    }

    public int substitute(int form, int p, int q, int r, int s) {
        if (!load(form, other)) {
            return NO_SUCH_FORM;
        }
        if (!isSubstitution(p, q, r, s)) {
            return BAD_VALUE;
        }
        work.becomeSubstituted(other, p, q, r, s);
        return storeIfFits(work);
    }

    public int isReducible(int form) {
        if (!load(form, work)) {
            return NO_SUCH_FORM;
        }
        return work.hasRationalRoot() ? 1 : 0;
    }

    // ---- equivalence

    public int canonical(int form) {
        if (!load(form, work)) {
            return NO_SUCH_FORM;
        }
        if (work.disc() <= 0) {
            return NOT_POSITIVE;
        }
        workshop.makeCanonical(work);
        return storeIfFits(work);
    }

    public int areEquivalent(int first, int second) {
        if (!load(first, work) || !load(second, other)) {
            return NO_SUCH_FORM;
        }
        if (work.disc() <= 0 || other.disc() <= 0) {
            return NOT_POSITIVE;
        }
        workshop.makeCanonical(work);
        workshop.makeCanonical(other);
        return work.isSameAs(other) ? 1 : 0;
    }

    public int automorphismCount(int form) {
        if (!load(form, work)) {
            return NO_SUCH_FORM;
        }
        if (work.disc() <= 0) {
            return NOT_POSITIVE;
        }
        return workshop.countAutomorphisms(work);
    }

    // ---- the ring of a form

    public int setElement(int register, int u, int v, int t) {
        if (!loadElement(register, left)) {
            return NO_SUCH_REGISTER;
        }
        right.set(u, v, t);
        if (!right.fitsRegister()) {
            return BAD_VALUE;
        }
        storeElement(register, right);
        return left.isSameAs(right) ? 0 : 1;
    }

    public int element(int register, int k) {
        if (!isRegister(register)) {
            return NO_SUCH_REGISTER;
        }
        if (k < 0 || k >= PARTS) {
            return BAD_VALUE;
        }
        return parts[register * PARTS + k];
    }

    public int multiply(int form, int first, int second, int target) {
        if (!load(form, work)) {
            return NO_SUCH_FORM;
        }
        if (!loadElement(first, left) || !loadElement(second, right) || !isRegister(target)) {
            return NO_SUCH_REGISTER;
        }
        RingElement product = ring.productOf(work, left, right);
        if (!product.fitsRegister()) {
            return OVERFLOW;
        }
        storeElement(target, product);
        return 1;
    }

    public long trace(int form, int register) {
        if (!load(form, work) || !loadElement(register, left)) {
            return NO_VALUE;
        }
        return left.traceIn(work);
    }

    public long norm(int form, int register) {
        if (!load(form, work) || !loadElement(register, left)) {
            return NO_VALUE;
        }
        return ring.normOf(work, left);
    }

    public long traceDeterminant(int form) {
        return load(form, work) ? ring.determinantOfTraces(work) : NO_VALUE;
    }

    public long elementIndex(int form, int register) {
        if (!load(form, work) || !loadElement(register, left)) {
            return NO_VALUE;
        }
        return ring.indexOf(work, left);
    }

    // ---- primes

    public int splitting(int form, int prime) {
        if (!load(form, work)) {
            return NO_SUCH_FORM;
        }
        if (!isPrime(prime)) {
            return BAD_VALUE;
        }
        return workshop.splittingCode(work, prime);
    }

    public int isMaximalAt(int form, int prime) {
        if (!load(form, work)) {
            return NO_SUCH_FORM;
        }
        if (!isPrime(prime)) {
            return BAD_VALUE;
        }
        return workshop.growAt(work, prime) ? 0 : 1;
    }

    public int overring(int form, int prime) {
        if (!load(form, work)) {
            return NO_SUCH_FORM;
        }
        if (!isPrime(prime)) {
            return BAD_VALUE;
        }
        if (!workshop.growAt(work, prime)) {
            return NONE;
        }
        return storeIfFits(work);
    }

    public int maximalOverring(int form) {
        if (!load(form, work)) {
            return NO_SUCH_FORM;
        }
        if (work.disc() <= 0) {
            return NOT_POSITIVE;
        }
        if (work.hasRationalRoot()) {
            return REDUCIBLE;
        }
        workshop.makeMaximal(work);
        return storeIfFits(work);
    }

    // ---- fields of small discriminant

    public int countForms(int limit) {
        if (limit < 1 || limit > FieldTable.MAX_LIMIT) {
            return BAD_VALUE;
        }
        table.fillOnce(workshop);
        return table.countFormsTo(limit);
    }

    public int countFields(int limit) {
        if (limit < 1 || limit > FieldTable.MAX_LIMIT) {
            return BAD_VALUE;
        }
        table.fillOnce(workshop);
        return table.countFieldsTo(limit);
    }

    public int fieldDiscriminant(int k) {
        if (k < 0) {
            return BAD_VALUE;
        }
        table.fillOnce(workshop);
        return k < table.fieldCount ? table.fieldDiscs[k] : NONE;
    }

    // ---- the store, and checks of arguments

    private boolean isForm(int form) {
        return form >= 0 && form < formCount;
    }

    private static boolean isRegister(int register) {
        return register >= 0 && register < REGISTERS;
    }

    private static boolean isWithin(long number, long bound) {
        return number >= -bound && number <= bound;
    }

    private static boolean isSubstitution(int p, int q, int r, int s) {
        if (!isWithin(p, MAX_ENTRY) || !isWithin(q, MAX_ENTRY)) {
            return false;
        }
        if (!isWithin(r, MAX_ENTRY) || !isWithin(s, MAX_ENTRY)) {
            return false;
        }
        return Math.abs(p * s - q * r) == 1;
    }

    private static boolean isPrime(int number) {
        if (number < 2 || number > MAX_PRIME) {
            return false;
        }
        for (int divisor = 2; divisor * divisor <= number; divisor++) {
            if (number % divisor == 0) {
                return false;
            }
        }
        return true;
    }

    private boolean load(int form, Cubic target) {
        if (!isForm(form)) {
            return false;
        }
        int at = form * COEFFICIENTS;
        target.set(coefficients[at], coefficients[at + 1], coefficients[at + 2], coefficients[at + 3]);
        return true;
    }

    private int storeIfFits(Cubic f) {
        return f.fitsStore() ? store(f) : OVERFLOW;
    }

    private int store(Cubic f) {
        if (formCount >= MAX_FORMS) {
            return FULL;
        }
        int at = formCount * COEFFICIENTS;
        coefficients[at] = (int) f.a;
        coefficients[at + 1] = (int) f.b;
        coefficients[at + 2] = (int) f.c;
        coefficients[at + 3] = (int) f.d;
        formCount++;
        return formCount - 1;
    }

    private boolean loadElement(int register, RingElement target) {
        if (!isRegister(register)) {
            return false;
        }
        int at = register * PARTS;
        target.set(parts[at], parts[at + 1], parts[at + 2]);
        return true;
    }

    private void storeElement(int register, RingElement e) {
        if (isRegister(register)) {
            int at = register * PARTS;
            parts[at] = (int) e.u;
            parts[at + 1] = (int) e.v;
            parts[at + 2] = (int) e.t;
        }
    }

    /**
     * A form with coefficients of 64 bits. All that is computed here is a
     * polynomial in the coefficients, so where a result fits into 64 bits it
     * is right even if a product on the way has wrapped around.
     */
    private static final class Cubic {
        // A step that does not end the reduction halves P, but for the last few.
        private static final int MAX_REDUCTION_STEPS = 1000;

        private long a;
        private long b;
        private long c;
        private long d;

        private void set(long a, long b, long c, long d) {
            this.a = a;
            this.b = b;
            this.c = c;
            this.d = d;
        }

        private void copyFrom(Cubic f) {
            set(f.a, f.b, f.c, f.d);
        }

        private boolean fitsStore() {
            return isWithin(a, MAX_COEFFICIENT) && isWithin(b, MAX_COEFFICIENT)
                    && isWithin(c, MAX_COEFFICIENT) && isWithin(d, MAX_COEFFICIENT);
        }

        private boolean isSameAs(Cubic f) {
            return a == f.a && b == f.b && c == f.c && d == f.d;
        }

        private boolean isBefore(Cubic f) {
            if (a != f.a) {
                return a < f.a;
            }
            if (b != f.b) {
                return b < f.b;
            }
            if (c != f.c) {
                return c < f.c;
            }
            return d < f.d;
        }

        private long disc() {
            return b * b * c * c - 4 * a * c * c * c - 4 * b * b * b * d
                    - 27 * a * a * d * d + 18 * a * b * c * d;
        }

        private long hessianP() {
            return b * b - 3 * a * c;
        }

        private long hessianQ() {
            return b * c - 9 * a * d;
        }

        private long hessianR() {
            return c * c - 3 * b * d;
        }

        private boolean hasReducedHessian() {
            long p = hessianP();
            return isWithin(hessianQ(), p) && p <= hessianR();
        }

        private long valueAt(long x, long y) {
            return ((a * x + b * y) * x + c * y * y) * x + d * y * y * y;
        }

        /** Becomes f(p x + q y, r x + s y); f is another object than this. */
        private void becomeSubstituted(Cubic f, long p, long q, long r, long s) {
            a = f.valueAt(p, r);
            b = 3 * f.a * p * p * q + f.b * p * (p * s + 2 * q * r)
                    + f.c * r * (2 * p * s + q * r) + 3 * f.d * r * r * s;
            c = 3 * f.a * p * q * q + f.b * q * (2 * p * s + q * r)
                    + f.c * s * (p * s + 2 * q * r) + 3 * f.d * r * s * s;
            d = f.valueAt(q, s);
        }

        /** Becomes f(x + k y, y) of what it was. */
        private void shift(long k) {
            d = valueAt(k, 1);
            c = (3 * a * k + 2 * b) * k + c;
            b = 3 * a * k + b;
        }

        private void swap() {
            set(d, c, b, a);
        }

        /**
         * Becomes an equivalent form with a reduced Hessian. The discriminant
         * is positive, so that the Hessian is positive definite.
         */
        private void reduceHessian() {
            for (int step = 0; step < MAX_REDUCTION_STEPS; step++) {
                long p = hessianP();
                long twice = 2 * p;
                if (twice <= 0) {
                    return;
                }
                shift(Math.floorDiv(p - hessianQ(), twice));
                if (p <= hessianR()) {
                    return;
                }
                swap();
            }
        }

        /** A root x / y in lowest terms has x | d and y | a; of two cofactors one is small. */
        private boolean hasRationalRoot() {
            if (a == 0 || d == 0) {
                return true;
            }
            long whole = Math.abs(a);
            for (long y = 1; y * y <= whole; y++) {
                if (whole % y == 0 && (hasRootOver(y) || hasRootOver(whole / y))) {
                    return true;
                }
            }
            return false;
        }

        private boolean hasRootOver(long y) {
            long whole = Math.abs(d);
            for (long x = 1; x * x <= whole; x++) {
                if (whole % x == 0 && (vanishesAt(x, y) || vanishesAt(whole / x, y))) {
                    return true;
                }
            }
            return false;
        }

        private boolean vanishesAt(long x, long y) {
            return valueAt(x, y) == 0 || valueAt(-x, y) == 0;
        }

        private boolean isMultipleOf(int p) {
            return p > 0 && a % p == 0 && b % p == 0 && c % p == 0 && d % p == 0;
        }

        /** Becomes f at the point (1, t), or at (0, 1) if t is the prime p. */
        private void becomeAtPoint(Cubic f, int p, long t) {
            if (t == p) {
                set(f.d, f.c, f.b, f.a);
            } else {
                set(((f.d * t + f.c) * t + f.b) * t + f.a,
                        (3 * f.d * t + 2 * f.c) * t + f.b,
                        3 * f.d * t + f.c,
                        f.d);
            }
        }

        /**
         * Becomes the form of the overring of f at p and tells true, or tells
         * false if the ring of f is maximal at p; f is another object than this.
         */
        private boolean becomeOverring(Cubic f, int p) {
            long square = (long) p * p;
            // Spares the points: p^2 divides the discriminant of a ring that is not maximal.
            if (square <= 0 || f.disc() % square != 0) {
                return false;
            }
            if (f.isMultipleOf(p)) {
                set(f.a / p, f.b / p, f.c / p, f.d / p);
                return true;
            }
            for (int t = 0; t <= p; t++) {
                becomeAtPoint(f, p, t);
                if (a % square == 0 && b % p == 0) {
                    set(a / square, b / p, c, d * p);
                    return true;
                }
            }
            return false;
        }
    }

    /** The algorithms on forms that need other forms to work on. */
    private static final class Workshop {
        /** The number of 2 by 2 matrices with entries from -1 to 1. */
        private static final int SMALL_MATRICES = 81;
        // A step divides the discriminant, which is below 2^40, by 4 at least.
        private static final int MAX_OVERRINGS = 64;

        private final Cubic source = new Cubic();
        private final Cubic candidate = new Cubic();

        /** Replaces f, whose discriminant is positive, by its canonical form. */
        private void makeCanonical(Cubic f) {
            f.reduceHessian();
            source.copyFrom(f);
            for (int number = 0; number < SMALL_MATRICES; number++) {
                if (makeCandidate(number) && candidate.hasReducedHessian() && candidate.isBefore(f)) {
                    f.copyFrom(candidate);
                }
            }
        }

        /**
         * Counts the automorphisms of f, whose discriminant is positive. An
         * automorphism keeps the Hessian; those of a reduced Hessian have
         * entries from -1 to 1, and equivalent forms have equally many.
         */
        private int countAutomorphisms(Cubic f) {
            f.reduceHessian();
            source.copyFrom(f);
            int count = 0;
            for (int number = 0; number < SMALL_MATRICES; number++) {
                if (makeCandidate(number) && candidate.isSameAs(source)) {
                    count++;
                }
            }
            return count;
        }

        /** The digits of the number to the base 3 are the entries plus 1. */
        private boolean makeCandidate(int number) {
            int p = number / 27 % 3 - 1;
            int q = number / 9 % 3 - 1;
            int r = number / 3 % 3 - 1;
            int s = number % 3 - 1;
            if (Math.abs(p * s - q * r) != 1) {
                return false;
            }
            candidate.becomeSubstituted(source, p, q, r, s);
            return true;
        }

        private int splittingCode(Cubic f, int p) {
            if (p <= 0 || f.isMultipleOf(p)) {
                return 0;
            }
            int roots = 0;
            boolean multiple = false;
            for (int t = 0; t <= p; t++) {
                candidate.becomeAtPoint(f, p, t);
                if (candidate.a % p == 0) {
                    roots++;
                    multiple = multiple || candidate.b % p == 0;
                }
            }
            if (multiple) {
                return roots > 1 ? 121 : 13;
            }
            if (roots == 0) {
                return 3;
            }
            return roots == 1 ? 21 : 111;
        }

        /** Replaces f by the form of its overring at p; false if there is none. */
        private boolean growAt(Cubic f, int p) {
            if (!candidate.becomeOverring(f, p)) {
                return false;
            }
            f.copyFrom(candidate);
            return true;
        }

        /** The same at the least prime where f, with a positive discriminant, is not maximal. */
        private boolean growAtLeastPrime(Cubic f) {
            long disc = f.disc();
            for (int p = 2; p <= MAX_PRIME && (long) p * p <= disc; p++) {
                // The discriminant is the cheapest test, so it comes before the primes.
                if (disc % ((long) p * p) == 0 && isPrime(p) && candidate.becomeOverring(f, p)) {
                    f.copyFrom(candidate);
                    return true;
                }
            }
            return false;
        }

        /** Replaces f, irreducible with a positive discriminant, by that of its maximal overring. */
        private void makeMaximal(Cubic f) {
            makeCanonical(f);
            for (int step = 0; step < MAX_OVERRINGS; step++) {
                if (!growAtLeastPrime(f)) {
                    return;
                }
                makeCanonical(f);
            }
        }
    }

    /** The element u + v w + t z of the ring of a form. */
    private static final class RingElement {
        private long u;
        private long v;
        private long t;

        private void set(long u, long v, long t) {
            this.u = u;
            this.v = v;
            this.t = t;
        }

        private boolean isSameAs(RingElement e) {
            return u == e.u && v == e.v && t == e.t;
        }

        private boolean fitsRegister() {
            return isWithin(u, MAX_PART) && isWithin(v, MAX_PART) && isWithin(t, MAX_PART);
        }

        /** The traces of 1, w and z are 3, b and -c. */
        private long traceIn(Cubic f) {
            return 3 * u + f.b * v - f.c * t;
        }

        private void becomeProduct(Cubic f, RingElement x, RingElement y) {
            long ww = x.v * y.v;
            long zz = x.t * y.t;
            long wz = x.v * y.t + x.t * y.v;
            set(x.u * y.u - f.a * f.c * ww - f.b * f.d * zz - f.a * f.d * wz,
                    x.u * y.v + x.v * y.u + f.b * ww + f.d * zz,
                    x.u * y.t + x.t * y.u - f.a * ww - f.c * zz);
        }
    }

    /** The computations in the ring of a form that need elements to work on. */
    private static final class Ring {
        private final RingElement one = new RingElement();
        private final RingElement w = new RingElement();
        private final RingElement z = new RingElement();
        private final RingElement product = new RingElement();
        private final RingElement rowOne = new RingElement();
        private final RingElement rowW = new RingElement();
        private final RingElement rowZ = new RingElement();

        private Ring() {
            one.u = 1;
            w.v = 1;
            z.t = 1;
        }

        /** The product; it stands until the next call of this object. */
        private RingElement productOf(Cubic f, RingElement x, RingElement y) {
            product.becomeProduct(f, x, y);
            return product;
        }

        private long normOf(Cubic f, RingElement e) {
            rowOne.becomeProduct(f, e, one);
            rowW.becomeProduct(f, e, w);
            rowZ.becomeProduct(f, e, z);
            return determinantOfRows();
        }

        private long determinantOfTraces(Cubic f) {
            setTraces(f, rowOne, one);
            setTraces(f, rowW, w);
            setTraces(f, rowZ, z);
            return determinantOfRows();
        }

        private void setTraces(Cubic f, RingElement row, RingElement e) {
            row.set(productOf(f, e, one).traceIn(f),
                    productOf(f, e, w).traceIn(f),
                    productOf(f, e, z).traceIn(f));
        }

        private long determinantOfRows() {
            return rowOne.u * (rowW.v * rowZ.t - rowW.t * rowZ.v)
                    - rowOne.v * (rowW.u * rowZ.t - rowW.t * rowZ.u)
                    + rowOne.t * (rowW.u * rowZ.v - rowW.v * rowZ.u);
        }

        private long indexOf(Cubic f, RingElement e) {
            RingElement square = productOf(f, e, e);
            return Math.abs(e.v * square.t - e.t * square.v);
        }
    }

    /** The discriminants of the tabulated forms, in ascending order. */
    private static final class FieldTable {
        private static final int MAX_LIMIT = 1000;
        private static final int MAX_TABULATED = 9;
        // There are 31 tabulated forms.
        private static final int ROOM = 64;

        private final int[] formDiscs = new int[ROOM];
        private int tabulatedCount = 0;
        private final int[] fieldDiscs = new int[ROOM];
        private int fieldCount = 0;
        private boolean filled = false;
        private final Cubic form = new Cubic();
        private final Cubic least = new Cubic();

        private int countFormsTo(int limit) {
            return countTo(formDiscs, tabulatedCount, limit);
        }

        private int countFieldsTo(int limit) {
            return countTo(fieldDiscs, fieldCount, limit);
        }

        private static int countTo(int[] discs, int size, int limit) {
            int count = 0;
            for (int i = 0; i < size && i < discs.length; i++) {
                if (discs[i] <= limit) {
                    count++;
                }
            }
            return count;
        }

        /**
         * Goes through the forms that can be tabulated. As -f is equivalent to
         * f and has the same Hessian, a is not positive in a canonical form,
         * and it is not 0 in an irreducible one.
         */
        private void fillOnce(Workshop workshop) {
            if (filled) {
                return;
            }
            for (int a = -MAX_TABULATED; a < 0; a++) {
                for (int b = -MAX_TABULATED; b <= MAX_TABULATED; b++) {
                    for (int c = -MAX_TABULATED; c <= MAX_TABULATED; c++) {
                        // From 3 D = 4 P R - Q^2 >= 3 P^2: a reduced Hessian has P^2 <= D.
                        int p = b * b - 3 * a * c;
                        boolean canFit = p > 0 && p * p <= MAX_LIMIT;
                        for (int d = -MAX_TABULATED; canFit && d <= MAX_TABULATED; d++) {
                            form.set(a, b, c, d);
                            if (isTabulated(workshop)) {
                                addTabulated(workshop);
                            }
                        }
                    }
                }
            }
            filled = true;
        }

        private boolean isTabulated(Workshop workshop) {
            if (!form.hasReducedHessian()) {
                return false;
            }
            long disc = form.disc();
            if (disc <= 0 || disc > MAX_LIMIT || form.hasRationalRoot()) {
                return false;
            }
            least.copyFrom(form);
            workshop.makeCanonical(least);
            return least.isSameAs(form);
        }

        private void addTabulated(Workshop workshop) {
            int disc = (int) form.disc();
            if (insert(formDiscs, tabulatedCount, disc)) {
                tabulatedCount++;
            }
            if (!workshop.growAtLeastPrime(form) && insert(fieldDiscs, fieldCount, disc)) {
                fieldCount++;
            }
        }

        private static boolean insert(int[] sorted, int size, int disc) {
            if (size < 0 || size >= sorted.length) {
                return false;
            }
            int at = size;
            while (at > 0 && sorted[at - 1] > disc) {
                sorted[at] = sorted[at - 1];
                at--;
            }
            sorted[at] = disc;
            return true;
        }
    }
}
