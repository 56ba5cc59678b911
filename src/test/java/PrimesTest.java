/** Promises 20 to 23, sentence by sentence: splitting, maximality and overrings. */
public final class PrimesTest implements Codes {
    public static void main(String[] args) {
        Sentences doc = new Sentences();
        splitting(doc);
        isMaximalAt(doc);
        overring(doc);
        maximalOverring(doc);
        doc.end();
    }

    private static void splitting(Sentences doc) {
        doc.section("Promise 20: splitting");
        doc.says("Tells how a prime splits, by the first case that applies: 0 if the prime divides all coefficients", () -> {
            Calls.with(6, 6, -12, -6, 0, 0, 0, 0, 300, -300, 0, 150).tells(0, "splitting", 0, 2).tells(0, "splitting", 0, 3)
                    .tells(3, "splitting", 0, 5).tells(0, "splitting", 1, 2).tells(0, "splitting", 1, 997)
                    .tells(0, "splitting", 2, 5);
            // One coefficient that is not divisible is enough.
            Calls.with(1, 2, 2, 2, 2, 1, 2, 2, 2, 2, 1, 2, 2, 2, 2, 1).tells(13, "splitting", 0, 2).tells(121, "splitting", 1, 2)
                    .tells(121, "splitting", 2, 2).tells(13, "splitting", 3, 2);
        });
        doc.says("3 if there is no root modulo the prime", () -> {
            Calls.with(1, 1, 0, 1, 1, 0, 0, -7, 1, 0, 0, -2, 1, 1, -2, -1).tells(3, "splitting", 0, 2).tells(3, "splitting", 1, 997)
                    .tells(3, "splitting", 2, 7).tells(3, "splitting", 3, 2);
        });
        doc.says("21 if there is one root and it is not a multiple root", () -> {
            // At the point (0, 1), at (1, 0), and at (1, p - 1).
            Calls.with(1, 1, 1, 0, 0, 1, 1, 1).tells(21, "splitting", 0, 2).tells(21, "splitting", 1, 2);
            Calls.with(1, 0, -2, 0, 0, 1, 0, -2, 1, 1, -2, -2).tells(21, "splitting", 0, 997).tells(21, "splitting", 1, 997)
                    .tells(21, "splitting", 2, 997);
            Calls.with(1, 0, 0, -2).tells(21, "splitting", 0, 5).tells(21, "splitting", 0, 11);
        });
        doc.says("111 if there are three roots", () -> {
            Calls.with(0, 1, -1, 0, 1, 0, -1, 0, 1, 0, 0, -2, 1, 1, -2, -1).tells(111, "splitting", 0, 2).tells(111, "splitting", 0, 997)
                    .tells(111, "splitting", 1, 3).tells(111, "splitting", 1, 997).tells(111, "splitting", 2, 31)
                    .tells(111, "splitting", 3, 13);
        });
        doc.says("121 if there is a multiple root and another root", () -> {
            // The double root is the point (0, 1), (1, 0), (1, p - 1).
            Calls.with(0, 1, 0, 0, 0, 0, 1, 0, 1, 2, 1, 0).tells(121, "splitting", 0, 2).tells(121, "splitting", 1, 2)
                    .tells(121, "splitting", 2, 2).tells(121, "splitting", 0, 997).tells(121, "splitting", 1, 997)
                    .tells(121, "splitting", 2, 997).tells(121, "splitting", 2, 3);
        });
        doc.says("13 if there is a multiple root and no other root.", () -> {
            Calls.with(1, 0, 0, 0, 0, 0, 0, 1, 1, 3, 3, 1, 1, 1, -2, -1, 1, 0, 0, -2).tells(13, "splitting", 0, 2)
                    .tells(13, "splitting", 1, 2).tells(13, "splitting", 2, 2).tells(13, "splitting", 0, 997)
                    .tells(13, "splitting", 1, 997).tells(13, "splitting", 2, 997).tells(13, "splitting", 2, 3)
                    .tells(13, "splitting", 3, 7).tells(13, "splitting", 4, 3).tells(13, "splitting", 4, 2);
        });
        doc.says("`form`: number of a stored form", () -> Edges.form(NO_SUCH_FORM, 0, "splitting", 0, 2));
        doc.says("`prime`: a prime from 2 to 997", () -> Edges.prime("splitting"));
        doc.says("Returns the code", PrimesTest::codesByCounting);
        doc.says("NO_SUCH_FORM", () -> noSuchFormComesFirst("splitting"));
        doc.says("BAD_VALUE if prime is not such a prime.", () -> noPrimeIsRefused("splitting"));
    }

    /** All forms modulo 2 and 3, by the number of zeros among p + 1 points and the discriminant. */
    private static void codesByCounting() {
        for (int p = 2; p <= 3; p++) {
            for (int i = 0; i < p * p * p * p; i++) {
                int[] f = {i % p, i / p % p, i / (p * p) % p, i / (p * p * p)};
                int roots = f[3] == 0 ? 1 : 0;
                for (int t = 0; t < p; t++) {
                    roots += (f[0] + f[1] * t + f[2] * t * t + f[3] * t * t * t) % p == 0 ? 1 : 0;
                }
                boolean multiple = Cubics.discriminant(f) % p == 0;
                int code = i == 0 ? 0 : multiple ? (roots > 1 ? 121 : 13) : roots == 0 ? 3 : roots == 1 ? 21 : 111;
                Calls.with(f).tells(code, "splitting", 0, p);
            }
        }
    }

    private static void noSuchFormComesFirst(String name) {
        Calls.with(8, 4, -4, -1).tells(NO_SUCH_FORM, name, 1, 2).tells(NO_SUCH_FORM, name, -1, 2).tells(NO_SUCH_FORM, name, 1, 4)
                .tells(NO_SUCH_FORM, name, -1, 998).does(1, "clearForms").tells(NO_SUCH_FORM, name, 0, 2).tells(NO_SUCH_FORM, name, 0, 1);
    }

    private static void noPrimeIsRefused(String name) {
        for (int form = 0; form < 3; form++) {
            Calls x = Calls.with(8, 4, -4, -1, 1, 1, -2, -1, 0, 0, 0, 0);
            for (int number : new int[] {-997, -2, -1, 0, 1, 4, 9, 961, 989, 996, 998, 999, 1000, 1009}) {
                x.tells(BAD_VALUE, name, form, number);
            }
        }
    }

    private static void isMaximalAt(Sentences doc) {
        doc.section("Promise 21: isMaximalAt");
        doc.says("`form`: number of a stored form", () -> Edges.form(NO_SUCH_FORM, 0, "isMaximalAt", 0, 2));
        doc.says("`prime`: a prime from 2 to 997", () -> Edges.prime("isMaximalAt"));
        doc.says("Returns 1 if the ring of the form is maximal at the prime", () -> {
            Calls.with(1, 1, -2, -1, 8, 4, -4, -1, 1, 0, -12, -8, 0, 1, -1, 0).tells(1, "isMaximalAt", 0, 2).tells(1, "isMaximalAt", 0, 7)
                    .tells(1, "isMaximalAt", 1, 7).tells(1, "isMaximalAt", 2, 3).tells(1, "isMaximalAt", 3, 2)
                    .tells(1, "isMaximalAt", 3, 997);
            // 4 divides a' and 2 does not divide b'; 2 divides a' and b', and 4 does not divide a'.
            Calls.with(4, 1, 0, 2, 2, 0, 0, 1, 2, 0, 1, 0).tells(-1736, "discriminant", 0).tells(1, "isMaximalAt", 0, 2)
                    .tells(1, "isMaximalAt", 1, 2).tells(1, "isMaximalAt", 2, 2);
            // The index is 1009, which is no prime of the document.
            Calls.with(5, 46, -128, -86).tells(1, "isMaximalAt", 0, 997).tells(BAD_VALUE, "isMaximalAt", 0, 1009);
        });
        doc.says("otherwise 0", () -> {
            Calls.with(8, 4, -4, -1, 6, 6, -12, -6, 1, 0, -12, -8, 0, 0, 0, 0, 0, 0, 1, 1).tells(0, "isMaximalAt", 0, 2)
                    .tells(0, "isMaximalAt", 1, 3).tells(0, "isMaximalAt", 1, 2).tells(0, "isMaximalAt", 2, 2)
                    .tells(0, "isMaximalAt", 3, 2).tells(0, "isMaximalAt", 3, 997).tells(0, "isMaximalAt", 4, 991);
            // The point is (1, 868); and the largest prime again where the discriminant is 0.
            Calls.with(2, 56, -144, -59, 1, 2, 1, 0).tells(0, "isMaximalAt", 0, 997).tells(1, "isMaximalAt", 0, 991)
                    .tells(0, "isMaximalAt", 1, 997);
            Calls.full(8, 4, -4, -1).tells(0, "isMaximalAt", 0, 2);
            // An overring that could not be stored is an overring.
            Calls.with(0, 0, 1, 1).tells(OVERFLOW, "overring", 0, 307).tells(0, "isMaximalAt", 0, 307);
        });
        doc.says("NO_SUCH_FORM", () -> noSuchFormComesFirst("isMaximalAt"));
        doc.says("BAD_VALUE if prime is not such a prime.", () -> noPrimeIsRefused("isMaximalAt"));
    }

    private static void overring(Sentences doc) {
        doc.section("Promise 22: overring");
        doc.says("Stores the form of the overring at a prime as a new form.", () -> {
            Calls x = Calls.with(8, 4, -4, -1, 6, 6, -12, -6, 4, 2, 2, 4, 2, -1, 2, 1, -2, -1, -2, 1, 1, 0, -12, -8);
            x.does(6, "overring", 0, 2).holdsForm(6, 2, 2, -4, -2).holdsForm(0, 8, 4, -4, -1);
            x.does(7, "overring", 1, 3).holdsForm(7, 2, 2, -4, -2);
            x.does(8, "overring", 2, 2).holdsForm(8, 2, 1, 1, 2);
            x.does(9, "overring", 3, 2).holdsForm(9, 1, 3, 5, 2);
            x.does(10, "overring", 4, 2).holdsForm(10, -1, -1, 1, 2);
            x.does(11, "overring", 5, 2).holdsForm(11, -2, -6, 0, 2);
        });
        doc.says("`form`: number of a stored form", () -> Edges.form(NO_SUCH_FORM, 0, "overring", 0, 2));
        doc.says("`prime`: a prime from 2 to 997", () -> Edges.prime("overring"));
        doc.says("Returns the number of the new form", () -> {
            Calls.with(8, 4, -4, -1).does(1, "overring", 0, 2).does(2, "overring", 0, 2).does(3, "overring", 1, 2).holdsForms(4);
            Calls.withRoomFor(1, 8, 4, -4, -1).does(59, "overring", 0, 2).holdsForm(59, 2, 2, -4, -2).holdsForms(60);
        });
        doc.says("NO_SUCH_FORM", () -> {
            noSuchFormComesFirst("overring");
            Calls.full(8, 4, -4, -1).tells(NO_SUCH_FORM, "overring", 60, 2).tells(NO_SUCH_FORM, "overring", 60, 4);
        });
        doc.says("BAD_VALUE if prime is not such a prime", () -> {
            noPrimeIsRefused("overring");
            Calls.full(8, 4, -4, -1, 1, 1, -2, -1).tells(BAD_VALUE, "overring", 0, 4).tells(BAD_VALUE, "overring", 1, 1);
        });
        doc.says("NONE if the ring is maximal at the prime", () -> {
            Calls.with(1, 1, -2, -1, 4, 1, 0, 2, 2, 0, 0, 1).tells(NONE, "overring", 0, 7).tells(NONE, "overring", 0, 2)
                    .tells(NONE, "overring", 0, 997).tells(NONE, "overring", 1, 2).tells(NONE, "overring", 2, 2);
            Calls.full(1, 1, -2, -1).tells(NONE, "overring", 0, 7);
            Calls.with(8, 4, -4, -1).does(1, "overring", 0, 2).does(2, "overring", 1, 2).tells(NONE, "overring", 2, 2);
        });
        doc.says("OVERFLOW if a coefficient is not from -300 to 300", PrimesTest::overringsAtTheEdge);
        doc.says("FULL.", () -> {
            Calls.full(8, 4, -4, -1, 0, 0, 1, 1, 1, 1, -2, -1).tells(FULL, "overring", 0, 2).tells(FULL, "overring", 59, 997)
                    .tells(OVERFLOW, "overring", 1, 307).tells(NONE, "overring", 2, 2).tells(BAD_VALUE, "overring", 0, 4)
                    .tells(NO_SUCH_FORM, "overring", 60, 2);
        });
    }

    /** b, c and d in turn, in both signs; a is never so large where the others are not. */
    private static void overringsAtTheEdge() {
        int[][] forms = {{-8, -131, -154, -13}, {11, -96, -171, -10}, {-233, 139, 205, 17}, {144, 207, 148, 33},
            {86, 225, 134, -145}, {72, -63, -300, 7}, {52, 204, 300, -79}, {275, 240, -5, 102},
            {248, 28, 110, -43}, {-9, 30, -13, -100}, {200, -100, -9, 60}, {-98, 119, 12, 43}};
        int[] primes = {3, 3, 2, 2, 2, 3, 2, 2, 7, 3, 5, 7};
        int[][] results = {{-110, -301, -232, -39}, {-105, -300, -231, -30}, {32, 300, 256, 34}, {133, 301, 247, 66},
            {75, 29, -301, -290}, {8, -21, -300, 21}, {13, 102, 300, -158}, {153, 268, 301, 204},
            {7, 17, -19, -301}, {-1, 10, -13, -300}, {8, -20, -9, 300}, {-2, 17, 12, 301}};
        for (int i = 0; i < forms.length; i++) {
            boolean fits = true;
            for (int coefficient : results[i]) {
                fits = fits && Math.abs(coefficient) <= 300;
            }
            if (fits) {
                Calls.with(forms[i]).does(1, "overring", 0, primes[i]).holdsForm(1, results[i]);
            } else {
                Calls.with(forms[i]).tells(OVERFLOW, "overring", 0, primes[i]);
            }
        }
        Calls.with(0, 0, 1, 1, 0, 0, 1, -300, 0, 0, 0, 1).does(3, "overring", 0, 293).holdsForm(3, 0, 0, 1, 293)
                .tells(OVERFLOW, "overring", 0, 307).tells(OVERFLOW, "overring", 1, 997).tells(OVERFLOW, "overring", 2, 997);
    }

    private static void maximalOverring(Sentences doc) {
        doc.section("Promise 23: maximalOverring");
        doc.says("Finds the largest overring that is reached by overrings at primes from 2 to 997 and stores the canonical form"
                + " of its form as a new form.", () -> {
            largest(new int[] {8, 4, -4, -1}, -1, -2, 1, 1);
            largest(new int[] {6, 6, -12, -6}, -1, -2, 1, 1);
            largest(new int[] {149, 149, -298, -149}, -1, -2, 1, 1);
            // At the primes 997; 3 and 997; 991.
            largest(new int[] {2, 56, -144, -59}, -1, -1, 3, 1);
            largest(new int[] {-45, -156, 113, 67}, -1, -2, 3, 1);
            largest(new int[] {-17, -72, 33, 37}, -1, -3, 0, 1);
            // The index is 1009: this overring is not reached.
            Calls.with(5, 46, -128, -86).tells(148L * 1009 * 1009, "discriminant", 0);
            largest(new int[] {5, 46, -128, -86}, -5, -46, 128, 86);
        });
        doc.says("Start with the canonical form of the form.", () -> {
            // Where the ring is maximal, this is all.
            largest(new int[] {1, 1, -2, -1}, -1, -2, 1, 1);
            largest(new int[] {-1, -2, 1, 1}, -1, -2, 1, 1);
            largest(new int[] {1, 0, -4, 1}, -1, 0, 4, -1);
        });
        doc.says("As long as the ring is not maximal at some prime from 2 to 997, take the least such prime and replace the form by the"
                + " canonical form of the form of the overring at this prime.", () -> {
            // Six times at 2, and four times at 3.
            largest(new int[] {-1, -26, -12, 8}, -1, -1, 3, 1);
            largest(new int[] {-8, -12, 26, 7}, -1, 0, 4, -1);
            largest(new int[] {-1, -15, 6, 37}, -1, -3, 0, 1);
            largest(new int[] {-5, -6, 45, -7}, -1, -2, 3, 1);
            // All coefficients have the factors 2, 3, 5 or 7, some of them twice.
            largest(new int[] {30, 30, -60, -30}, -1, -2, 1, 1);
            largest(new int[] {100, 100, -200, -100}, -1, -2, 1, 1);
            largest(new int[] {147, 147, -294, -147}, -1, -2, 1, 1);
            largest(new int[] {128, 128, -256, -128}, -1, -2, 1, 1);
        });
        doc.says("(The forms on the way need not fit into the range of stored forms; all of their coefficients and Hessians fit into"
                + " 64 bits.)", () -> {
            // The canonical form is (-1, -297, 307, 231), the overring at 2 has the form (60, 505, 1000, 462).
            Calls x = Calls.with(1, -300, 290, 240).tells(33014048800L, "discriminant", 0).tells(OVERFLOW, "canonical", 0);
            x.does(1, "maximalOverring", 0).holdsForm(1, -60, -145, 300, -2).tells(33014048800L / 4, "discriminant", 1);
            // (-26, -34, 301, -49) is the canonical form.
            Calls.with(-26, -112, 155, 192).tells(OVERFLOW, "canonical", 0).does(1, "maximalOverring", 0).holdsForm(1, -1, -40, 49, 174);
        });
        doc.says("`form`: number of a stored form", () -> Edges.form(NO_SUCH_FORM, 0, "maximalOverring", 0));
        doc.says("Returns the number of the new form", () -> {
            Calls.with(0, 0, 0, 0, 8, 4, -4, -1).does(2, "maximalOverring", 1).does(3, "maximalOverring", 2).holdsForms(4);
            Calls.withRoomFor(1, 8, 4, -4, -1).does(59, "maximalOverring", 0).holdsForm(59, -1, -2, 1, 1).holdsForms(60);
        });
        doc.says("NO_SUCH_FORM", () -> {
            Calls.with(8, 4, -4, -1).tells(NO_SUCH_FORM, "maximalOverring", 1).tells(NO_SUCH_FORM, "maximalOverring", -1);
            Calls.full().tells(NO_SUCH_FORM, "maximalOverring", 60);
        });
        doc.says("NOT_POSITIVE", () -> {
            // Irreducible, and reducible with the discriminants -3 and 0.
            Calls.with(1, 0, 0, -2, 0, 1, 1, 1, 0, 0, 0, 0, 0, 0, 0, 1, 1, 2, 1, 0).tells(NOT_POSITIVE, "maximalOverring", 0)
                    .tells(NOT_POSITIVE, "maximalOverring", 1).tells(NOT_POSITIVE, "maximalOverring", 2)
                    .tells(NOT_POSITIVE, "maximalOverring", 3).tells(NOT_POSITIVE, "maximalOverring", 4);
            Calls.full(1, 0, 0, -2).tells(NOT_POSITIVE, "maximalOverring", 0).tells(NOT_POSITIVE, "maximalOverring", 59);
        });
        doc.says("REDUCIBLE", () -> {
            // The last one has a canonical form that is too large.
            Calls.with(0, 1, -1, 0, 0, 1, 1, -1, 1, 0, -2, 0, 2, 3, -3, -2, 0, 1, 299, 1).tells(REDUCIBLE, "maximalOverring", 0)
                    .tells(REDUCIBLE, "maximalOverring", 1).tells(REDUCIBLE, "maximalOverring", 2)
                    .tells(REDUCIBLE, "maximalOverring", 3).tells(REDUCIBLE, "maximalOverring", 4);
            Calls.full(0, 1, -1, 0).tells(REDUCIBLE, "maximalOverring", 0);
        });
        doc.says("OVERFLOW if a coefficient of the last form is not from -300 to 300", () -> {
            largest(new int[] {-91, -300, 300, 51}, -51, -300, 300, 91);
            largest(new int[] {158, 119, -203, -75}, -75, -22, 300, 89);
            largest(new int[] {-300, -237, 188, 26}, -26, -188, 237, 300);
            // (-64, -301, 164, 146), (-29, -202, 301, 176), (-10, -192, 139, 301) and (-1, -253, -203, 312)
            Calls.with(-146, -274, 191, 255, 298, 276, -227, -176, -238, -275, 222, -10, 1, 250, -300, -263)
                    .tells(OVERFLOW, "maximalOverring", 0).tells(OVERFLOW, "maximalOverring", 1)
                    .tells(OVERFLOW, "maximalOverring", 2).tells(OVERFLOW, "maximalOverring", 3);
        });
        doc.says("FULL.", () -> Calls.full(8, 4, -4, -1, 1, 250, -300, -263, 0, 1, -1, 0).tells(FULL, "maximalOverring", 0)
                .tells(OVERFLOW, "maximalOverring", 1).tells(REDUCIBLE, "maximalOverring", 2).tells(NOT_POSITIVE, "maximalOverring", 3)
                .tells(NO_SUCH_FORM, "maximalOverring", 60));
    }

    /** The maximal overring of the form is stored behind it; at no prime of the document does it grow further. */
    private static void largest(int[] form, int... result) {
        Calls x = Calls.with(form).does(1, "maximalOverring", 0).holdsForm(1, result).holdsForm(0, form);
        for (int p = 2; p <= 997; p++) {
            if (Edges.isPrime(p)) {
                x.does(1, "isMaximalAt", 1, p);
            }
        }
    }
}
