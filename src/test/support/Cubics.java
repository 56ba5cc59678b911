/** Small cubic forms as rows of four coefficients, computed in the plainest way, to compare with. */
final class Cubics {
    private Cubics() {
    }

    interface Visitor {
        void visit(int[] numbers);
    }

    /** All rows of four numbers from -bound to bound: forms, or the entries of substitutions. */
    static void eachRow(int bound, Visitor visitor) {
        int side = 2 * bound + 1;
        for (int i = 0; i < side * side * side * side; i++) {
            visitor.visit(new int[] {i % side - bound, i / side % side - bound, i / (side * side) % side - bound,
                i / (side * side * side) - bound});
        }
    }

    static void eachSubstitution(int bound, Visitor visitor) {
        eachRow(bound, m -> {
            if (isSubstitution(m)) {
                visitor.visit(m);
            }
        });
    }

    static boolean isSubstitution(int[] m) {
        return Math.abs(m[0] * m[3] - m[1] * m[2]) == 1;
    }

    static int valueAt(int[] f, int x, int y) {
        return f[0] * x * x * x + f[1] * x * x * y + f[2] * x * y * y + f[3] * y * y * y;
    }

    /** By four values: a cubic form g has g(1, 1) - g(1, -1) = 2 (b + d) and g(1, 1) + g(1, -1) = 2 (a + c). */
    static int[] substituted(int[] f, int p, int q, int r, int s) {
        int a = valueAt(f, p, r);
        int d = valueAt(f, q, s);
        int sum = valueAt(f, p + q, r + s);
        int difference = valueAt(f, p - q, r - s);
        return new int[] {a, (sum - difference) / 2 - d, (sum + difference) / 2 - a, d};
    }

    static int[] substituted(int[] f, int[] m) {
        return substituted(f, m[0], m[1], m[2], m[3]);
    }

    static long discriminant(int[] f) {
        long a = f[0];
        long b = f[1];
        long c = f[2];
        long d = f[3];
        return b * b * c * c - 4 * a * c * c * c - 4 * b * b * b * d - 27 * a * a * d * d + 18 * a * b * c * d;
    }

    static boolean hasReducedHessian(int[] f) {
        int p = f[1] * f[1] - 3 * f[0] * f[2];
        int q = f[1] * f[2] - 9 * f[0] * f[3];
        int r = f[2] * f[2] - 3 * f[1] * f[3];
        return Math.abs(q) <= p && p <= r;
    }
}
