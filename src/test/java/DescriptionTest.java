import java.lang.reflect.Method;
import java.lang.reflect.Modifier;
import java.util.ArrayList;
import java.util.Arrays;
import java.util.List;
import java.util.Random;
import java.util.Set;
import java.util.TreeSet;
import java.util.regex.Matcher;
import java.util.regex.Pattern;

/** What the document says around the promises: "What it is", "Description" and "Not promised", sentence by sentence. */
public final class DescriptionTest implements Codes {
    private static final Pattern CALL = Pattern.compile("(\\w+)\\(([-0-9, ]*)\\) = (-?\\d+)");

    /** Each method once, with arguments that it takes where form 0 is (1, 1, -2, -1). */
    private static final String[] EACH_METHOD = {"addForm(1, 2, 3, 4) = 1", "clearForms() = 1", "coefficient(0, 3) = -1",
        "discriminant(0) = 49", "hessian(0, 2) = 7", "value(0, 1000, -1000) = -1000000000", "substitute(0, 2, 1, 1, 1) = 1",
        "isReducible(0) = 0", "canonical(0) = 1", "areEquivalent(0, 0) = 1", "automorphismCount(0) = 3",
        "setElement(0, 9, 9, 9) = 1", "element(0, 1) = 2", "multiply(0, 0, 0, 1) = 1", "trace(0, 0) = 3", "norm(0, 0) = 1",
        "traceDeterminant(0) = 49", "elementIndex(0, 0) = 1", "splitting(0, 997) = 3", "isMaximalAt(0, 7) = 1",
        "overring(0, 7) = -10008", "maximalOverring(0) = 1", "countForms(1000) = 31", "countFields(1000) = 27",
        "fieldDiscriminant(26) = 993"};

    public static void main(String[] args) {
        Sentences doc = new Sentences();
        whatItIs(doc);
        doc.section("Description");
        forms(doc);
        substitutions(doc);
        canonicalForms(doc);
        theRing(doc);
        primes(doc);
        maximality(doc);
        errors(doc);
        examples(doc);
        constants(doc);
        notPromised(doc);
        doc.end();
    }

    /** A call written as in the document's examples. */
    private static void does(Calls x, String example) {
        Matcher m = CALL.matcher(example);
        while (m.find()) {
            int[] arguments = m.group(2).isEmpty() ? new int[0]
                    : Arrays.stream(m.group(2).split(", ")).mapToInt(Integer::parseInt).toArray();
            x.does(Long.parseLong(m.group(3)), m.group(1), arguments);
        }
    }

    private static void whatItIs(Sentences doc) {
        doc.section("What it is");
        doc.says("A library for binary cubic forms with integer coefficients and the cubic rings that correspond to them (the"
                + " Delone-Faddeev correspondence).", DescriptionTest::ringsCorrespondToForms);
        doc.says("It computes discriminants and Hessians, canonical forms and equivalence for positive discriminants, multiplication in"
                + " the ring of a form, splitting of primes, maximality of the ring at a prime, maximal overrings, and it counts totally"
                + " real cubic fields of small discriminant.", () -> {
            // All of it on one object; number 0 has the index 8 in the ring of the field with the discriminant 49.
            Calls x = Calls.with(8, 4, -4, -1).tells(3136, "discriminant", 0).tells(112, "hessian", 0, 0);
            x.does(1, "canonical", 0).holdsForm(1, -1, -1, 9, 1).tells(1, "areEquivalent", 0, 1);
            x.does(1, "setElement", 0, 1, 1, 1).does(1, "multiply", 0, 0, 0, 0).holdsElement(0, 53, 5, -2);
            x.tells(13, "splitting", 0, 2).tells(0, "isMaximalAt", 0, 2).tells(1, "isMaximalAt", 0, 3);
            x.does(2, "maximalOverring", 0).holdsForm(2, -1, -2, 1, 1).tells(49, "discriminant", 2).tells(1, "countFields", 49);
        });
        doc.says("An object is used for at most 512 calls after it has been made; what later calls answer is free.", () -> {
            for (String call : EACH_METHOD) {
                Calls x = Calls.with(1, 1, -2, -1).does(1, "setElement", 0, 1, 2, -1);
                while (x.count() < Calls.LAST - 1) {
                    x.does(x.count() % 2 == 0 ? 31 : 1, x.count() % 2 == 0 ? "countForms" : "areEquivalent",
                            x.count() % 2 == 0 ? new int[] {1000} : new int[] {0, 0});
                }
                does(x, call);
                Check.same("the number of calls", x.count(), 512);
            }
            // All 512 calls change something.
            Calls x = new Calls();
            while (x.count() < Calls.LAST) {
                int place = x.count() % 61;
                x.does(place == 60 ? 60 : place, place == 60 ? "clearForms" : "addForm",
                        place == 60 ? new int[0] : new int[] {place, x.count() % 300, 0, 1});
            }
        });
    }

    /** A ring has the discriminant of its form, and the value of the form at (v, t) is the index of v w + t z. */
    private static void ringsCorrespondToForms() {
        Cubics.eachRow(2, f -> {
            Calls x = Calls.with(f);
            x.does(Cubics.discriminant(f), "traceDeterminant", 0);
            for (int[] e : new int[][] {{1, 0}, {0, 1}, {1, 1}, {2, -1}, {-3, 5}}) {
                x.ask("setElement", 0, 7, e[0], e[1]);
                x.does(Math.abs(Cubics.valueAt(f, e[0], e[1])), "elementIndex", 0, 0);
            }
            // The form of an equivalent ring differs; how primes split and whether it is maximal there do not.
            x.does(1, "substitute", 0, 2, 1, 1, 1);
            for (int p : new int[] {2, 3, 5}) {
                x.does(x.ask("splitting", 0, p), "splitting", 1, p).does(x.ask("isMaximalAt", 0, p), "isMaximalAt", 1, p);
            }
        });
    }

    private static void forms(Sentences doc) {
        doc.says("Forms. A form (a, b, c, d) stands for f(x, y) = a x^3 + b x^2 y + c x y^2 + d y^3.", () -> {
            int[][] units = {{1, 0, 0, 0}, {0, 1, 0, 0}, {0, 0, 1, 0}, {0, 0, 0, 1}};
            long[] values = {125, 75, 45, 27};
            for (int k = 0; k < 4; k++) {
                Calls.with(units[k]).tells(values[k], "value", 0, 5, 3);
            }
        });
        doc.says("The library stores up to 60 forms, numbered from 0 in the order in which they were stored.", () -> {
            String[] storing = {"addForm(1, 1, 1, 1) = ", "substitute(0, 1, 0, 0, 1) = ", "canonical(0) = ", "overring(0, 2) = ",
                "maximalOverring(0) = "};
            Calls mixed = Calls.with(8, 4, -4, -1);
            for (int number = 1; number < 60; number++) {
                does(mixed, storing[number % 5] + number);
            }
            mixed.holdsForm(5, 1, 1, 1, 1).holdsForm(6, 8, 4, -4, -1).holdsForm(7, -1, -1, 9, 1).holdsForms(60);
        });
        doc.says("Coefficients of stored forms are from -300 to 300.", () -> {
            new Calls().does(0, "addForm", 300, 300, 300, 300).does(1, "addForm", -300, -300, -300, -300)
                    .tells(BAD_VALUE, "addForm", 301, 301, 301, 301).tells(BAD_VALUE, "addForm", -301, -301, -301, -301);
            Calls.with(300, -300, 300, -300).does(1, "substitute", 0, 0, 1, 1, 0).holdsForm(1, -300, 300, -300, 300)
                    .tells(OVERFLOW, "substitute", 0, 1, 1, 0, 1);
            Calls.with(299, 104, -300, -20, 140, -263, -195, 276).does(2, "canonical", 0).tells(OVERFLOW, "canonical", 1);
            Calls.with(-9, 30, -13, -100, 248, 28, 110, -43).does(2, "overring", 0, 3).tells(OVERFLOW, "overring", 1, 7);
            Calls.with(-91, -300, 300, 51, -146, -274, 191, 255).does(2, "maximalOverring", 0).tells(OVERFLOW, "maximalOverring", 1);
        });
        doc.says("Equal forms can be stored several times; each gets its own number.", () -> {
            Calls x = Calls.with(1, 1, -2, -1, 1, 1, -2, -1).does(2, "addForm", 1, 1, -2, -1).does(3, "canonical", 0).does(4, "canonical", 1)
                    .does(5, "canonical", 3).does(6, "substitute", 0, 1, 0, 0, 1).does(7, "maximalOverring", 0);
            x.holdsForm(2, 1, 1, -2, -1).holdsForm(6, 1, 1, -2, -1).holdsForm(4, -1, -2, 1, 1).holdsForm(7, -1, -2, 1, 1).holdsForms(8);
            Calls zeros = Calls.full();
            zeros.holdsForm(0, 0, 0, 0, 0).holdsForm(59, 0, 0, 0, 0);
        });
        doc.says("Discriminant and Hessian. The discriminant of f is b^2 c^2 - 4 a c^3 - 4 b^3 d - 27 a^2 d^2 + 18 a b c d.", () -> {
            // A term at a time, and then all of them.
            Calls.with(0, 1, 1, 0, 1, 0, 1, 0, 0, 1, 0, 1, 1, 0, 0, 1, 1, 1, 1, 1).tells(1, "discriminant", 0).tells(-4, "discriminant", 1)
                    .tells(-4, "discriminant", 2).tells(-27, "discriminant", 3).tells(1 - 4 - 4 - 27 + 18, "discriminant", 4);
            Cubics.eachRow(3, f -> Calls.with(f).does(Cubics.discriminant(f), "discriminant", 0)
                    .does(Cubics.discriminant(f), "traceDeterminant", 0));
        });
        doc.says("The Hessian of f is (P, Q, R) with P = b^2 - 3 a c, Q = b c - 9 a d, R = c^2 - 3 b d.",
                () -> Cubics.eachRow(2, f -> Calls.with(f).does(f[1] * f[1] - 3 * f[0] * f[2], "hessian", 0, 0)
                .does(f[1] * f[2] - 9 * f[0] * f[3], "hessian", 0, 1).does(f[2] * f[2] - 3 * f[1] * f[3], "hessian", 0, 2)));
        doc.says("The Hessian is called reduced if |Q| is at most P, and P is at most R.", () -> {
            // Q = P and Q = -P; P = R; all three equal: the forms on both sides of the edge are candidates.
            canonicalIs(new int[] {2, 0, -9, 3}, -2, -6, 3, 4);
            canonicalIs(new int[] {2, 0, -9, -3}, -2, -6, 3, 4);
            canonicalIs(new int[] {1, -3, -7, -1}, -1, -6, -2, 2);
            canonicalIs(new int[] {-1, -6, 3, 2}, -2, -3, 6, 1);
            canonicalIs(new int[] {1, 6, 0, -2}, -2, 0, 6, -1);
            canonicalIs(new int[] {-3, -4, 5, 3}, -3, -5, 4, 3);
            canonicalIs(new int[] {3, 4, -5, -3}, -3, -5, 4, 3);
            // P = R + 1, and |Q| = P + 1: these are lexicographically less than the canonical form, and not reduced.
            canonicalIs(new int[] {-4, -7, 6, 4}, -4, -6, 7, 4);
            canonicalIs(new int[] {-2, -4, 3, 2}, -2, -3, 4, 2);
            canonicalIs(new int[] {-1, -5, -1, 2}, -1, -2, 6, -1);
            Cubics.eachRow(3, f -> {
                if (Cubics.discriminant(f) > 0) {
                    Calls x = Calls.with(f).does(1, "canonical", 0);
                    long p = x.ask("hessian", 1, 0);
                    Check.holds("the reduced Hessian of the canonical form of " + Arrays.toString(f),
                            Math.abs(x.ask("hessian", 1, 1)) <= p && p <= x.ask("hessian", 1, 2));
                }
            });
        });
    }

    private static void canonicalIs(int[] form, int... canonical) {
        Calls.with(form).does(1, "canonical", 0).holdsForm(1, canonical);
    }

    private static void substitutions(Sentences doc) {
        doc.says("Substitutions. For integers p, q, r, s with p s - q r equal to 1 or -1, the substitution (p, q, r, s) takes f to the"
                + " form f(p x + q y, r x + s y).", () -> {
            int[][] sources = {{1, 2, 3, 4}, {-3, 1, 0, 2}, {0, 1, -1, 5}};
            for (int[] f : sources) {
                Cubics.eachRow(2, m -> {
                    if (Cubics.isSubstitution(m)) {
                        Calls.with(f).does(1, "substitute", 0, m[0], m[1], m[2], m[3]).holdsForm(1, Cubics.substituted(f, m));
                    } else {
                        Calls.with(f).tells(BAD_VALUE, "substitute", 0, m[0], m[1], m[2], m[3]);
                    }
                });
            }
        });
        doc.says("Two forms are equivalent if a substitution takes one to the other.", () -> {
            // By each substitution with small entries, of both determinants; and to the negative form.
            Cubics.eachSubstitution(1, m -> Calls.with(-1, -1, 3, 1).does(1, "substitute", 0, m[0], m[1], m[2], m[3])
                    .tells(1, "areEquivalent", 0, 1).tells(1, "areEquivalent", 1, 0));
            Calls.with(-1, -1, 3, 1, 1, 1, -3, -1, -1, -1, 4, 1).tells(1, "areEquivalent", 0, 1).tells(0, "areEquivalent", 0, 2);
        });
    }

    private static void canonicalForms(Sentences doc) {
        doc.says("Canonical forms. Let f have a positive discriminant.", () -> Calls.with(0, 1, -1, 0, 1, 2, 1, 0, 0, 1, 1, 1)
                .does(3, "canonical", 0).tells(NOT_POSITIVE, "canonical", 1).tells(NOT_POSITIVE, "canonical", 2));
        doc.says("Then finitely many forms that are equivalent to f have a reduced Hessian, and there is at least one.",
                () -> Cubics.eachRow(2, f -> {
                    if (Cubics.discriminant(f) > 0) {
                        Calls.with(f).does(1, "canonical", 0).does(1, "areEquivalent", 0, 1);
                    }
                }));
        doc.says("From any one of them, all of them are reached by substitutions with entries from -1 to 1.",
                DescriptionTest::reducedFormsReachEachOther);
        doc.says("The canonical form of f is the lexicographically least one of them (compare a, then b, then c, then d, as signed"
                + " integers).", () -> {
            // a decides, then b twice, c, d; and c in the other three of its signs.
            canonicalIs(new int[] {-1, -6, 3, 2}, -2, -3, 6, 1);
            canonicalIs(new int[] {-2, 3, 6, -1}, -2, -3, 6, 1);
            canonicalIs(new int[] {-3, -4, 5, 3}, -3, -5, 4, 3);
            canonicalIs(new int[] {0, -1, 1, 1}, 0, -1, -1, 1);
            canonicalIs(new int[] {-1, 0, 4, 1}, -1, 0, 4, -1);
            for (int sign = -1; sign <= 1; sign += 2) {
                canonicalIs(new int[] {0, 2 * sign, 1, -5 * sign}, 0, -2, -1, 5);
                canonicalIs(new int[] {0, 2 * sign, -1, -5 * sign}, 0, -2, -1, 5);
            }
            // Less means less as a signed integer, not in its absolute value.
            canonicalIs(new int[] {1, 0, -4, 1}, -1, 0, 4, -1);
            canonicalIs(new int[] {0, 1, 0, -1}, 0, -1, 0, 1);
            canonicalIs(new int[] {0, -6, 0, 2}, -2, 0, 6, 0);
        });
        doc.says("So two forms with positive discriminants are equivalent if and only if they have the same canonical form.", () -> {
            List<int[]> some = new ArrayList<>();
            Cubics.eachRow(2, f -> {
                if (Cubics.discriminant(f) > 0 && (f[0] + 5 * f[1] + 3 * f[2] + 7 * f[3]) % 4 == 0) {
                    some.add(f);
                }
            });
            for (int[] f : some) {
                for (int[] g : some) {
                    Calls x = Calls.with(f).does(1, "addForm", g).does(2, "canonical", 0).does(3, "canonical", 1);
                    boolean same = true;
                    for (int k = 0; k < 4; k++) {
                        same = x.ask("coefficient", 2, k) == x.ask("coefficient", 3, k) && same;
                    }
                    x.does(same ? 1 : 0, "areEquivalent", 0, 1);
                }
            }
        });
        doc.says("Irreducibility. A form is reducible if f(x, y) = 0 for some integers x and y that are not both 0 (so the zero form is"
                + " reducible).", () -> {
            Calls.with(0, 0, 0, 0, 0, 1, 1, 1, 1, 1, 1, 0, 1, 1, 1, 1, 2, 1, 2, 1).tells(1, "isReducible", 0).tells(1, "isReducible", 1)
                    .tells(1, "isReducible", 2).tells(1, "isReducible", 3).tells(1, "isReducible", 4);
            // The zero (300, -1), and its mirror images.
            Calls.with(1, 300, 1, 300, 300, -1, 300, -1).tells(0, "value", 0, 300, -1).tells(1, "isReducible", 0)
                    .tells(0, "value", 1, 1, 300).tells(1, "isReducible", 1);
        });
        doc.says("Otherwise it is irreducible.", () -> {
            // All forms have f(0, 0) = 0; that is not counted.
            Calls.with(1, 0, 0, -2).tells(0, "value", 0, 0, 0).tells(0, "isReducible", 0);
            Cubics.eachRow(3, f -> {
                boolean zero = false;
                for (int x = -3; x <= 3; x++) {
                    for (int y = -3; y <= 3; y++) {
                        zero = zero || (x != 0 || y != 0) && Cubics.valueAt(f, x, y) == 0;
                    }
                }
                Calls.with(f).does(zero ? 1 : 0, "isReducible", 0);
            });
        });
    }

    private static void reducedFormsReachEachOther() {
        int[][] starts = {{-2, -6, 3, 4}, {-1, -6, -2, 2}, {-2, -3, 6, 1}, {-2, 0, 6, -1}, {-3, -5, 4, 3}, {-3, -6, 6, 4}, {-1, 0, 3, 0},
            {0, -6, -6, 0}, {-1, 0, 4, 0}};
        int[] numbers = {8, 8, 8, 8, 8, 4, 4, 4, 2};
        for (int i = 0; i < starts.length; i++) {
            Set<String> first = reducedFormsFrom(starts[i], starts[i]);
            Check.same("the number of reduced forms", first.size(), numbers[i]);
            for (String form : first) {
                int[] f = Arrays.stream(form.substring(1, form.length() - 1).split(", ")).mapToInt(Integer::parseInt).toArray();
                Check.holds("that " + form + " reaches the same forms", reducedFormsFrom(f, starts[i]).equals(first));
            }
        }
    }

    /** The forms with a reduced Hessian that are reached by small entries; each has the canonical form that is given. */
    private static Set<String> reducedFormsFrom(int[] f, int[] canonical) {
        canonicalIs(f, canonical);
        Set<String> found = new TreeSet<>();
        Cubics.eachSubstitution(1, m -> {
            int[] g = Cubics.substituted(f, m);
            if (Cubics.hasReducedHessian(g)) {
                found.add(Arrays.toString(g));
            }
        });
        return found;
    }

    private static void theRing(Sentences doc) {
        doc.says("The ring of a form. The ring has the elements u + v w + t z with integers u, v, t, where w and z are two fixed symbols,"
                + " and the multiplication is determined by w * w = -a c + b w - a z, z * z = -b d + d w - c z and"
                + " w * z = z * w = -a d, together with the usual laws of commutative rings.", () -> {
            Cubics.eachRow(2, f -> {
                Calls x = withElements(f, 0, 1, 0, 0, 0, 1);
                x.does(1, "multiply", 0, 0, 0, 2).holdsElement(2, -f[0] * f[2], f[1], -f[0]);
                x.does(1, "multiply", 0, 1, 1, 2).holdsElement(2, -f[1] * f[3], f[3], -f[2]);
                x.does(1, "multiply", 0, 0, 1, 2).holdsElement(2, -f[0] * f[3], 0, 0);
                x.does(1, "multiply", 0, 1, 0, 2).holdsElement(2, -f[0] * f[3], 0, 0);
            });
            laws();
        });
        doc.says("An element register holds three integers (u, v, t).", () -> new Calls().does(1, "setElement", 4, 100, -100, 99)
                .holdsElement(4, 100, -100, 99).tells(BAD_VALUE, "element", 4, 3));
        doc.says("There are 6 registers, numbered from 0.", () -> {
            Calls x = new Calls();
            for (int register = 0; register < 6; register++) {
                x.does(1, "setElement", register, register, -register, 1);
            }
            for (int register = 0; register < 6; register++) {
                x.holdsElement(register, register, -register, 1);
            }
            x.tells(NO_SUCH_REGISTER, "setElement", 6, 1, 1, 1).tells(NO_SUCH_REGISTER, "setElement", -1, 1, 1, 1)
                    .tells(NO_SUCH_REGISTER, "element", 6, 0).tells(NO_SUCH_REGISTER, "element", -1, 0);
        });
        doc.says("The trace of an element e is the trace of the 3 by 3 matrix of the linear map that multiplies by e; the norm of e is"
                + " the determinant of this matrix.", () -> {
            int[][] forms = {{2, 3, -5, 4}, {1, 1, -2, -1}, {-3, 2, 1, 2}, {0, 0, 0, 0}, {0, 1, 0, 3}, {4, 0, -1, 0}};
            int[][] elements = {{1, 2, -1}, {0, 1, 0}, {0, 0, 1}, {-2, 1, 1}, {3, -1, 2}, {0, 0, 0}, {2, 0, 0}};
            for (int[] f : forms) {
                for (int[] e : elements) {
                    traceAndNormByMatrix(f, e);
                }
            }
        });
    }

    private static Calls withElements(int[] form, int... parts) {
        Calls x = Calls.with(form);
        for (int register = 0; 3 * register < parts.length; register++) {
            x.ask("setElement", register, parts[3 * register], parts[3 * register + 1], parts[3 * register + 2]);
        }
        return x;
    }

    /** Products in all orders and groupings agree, with a sum in one factor, and 1 changes nothing. */
    private static void laws() {
        Random random = new Random(6);
        for (int run = 0; run < 200; run++) {
            int[] f = {random.nextInt(3) - 1, random.nextInt(3) - 1, random.nextInt(3) - 1, random.nextInt(3) - 1};
            int[] e = new int[9];
            for (int i = 0; i < 9; i++) {
                e[i] = random.nextInt(5) - 2;
            }
            Calls x = withElements(f, e);
            x.does(1, "multiply", 0, 0, 1, 3).does(1, "multiply", 0, 3, 2, 3);
            x.does(1, "multiply", 0, 1, 2, 4).does(1, "multiply", 0, 4, 0, 4);
            x.does(1, "multiply", 0, 1, 0, 5).does(1, "multiply", 0, 2, 5, 5);
            int[] left = elementOf(x, 3);
            x.holdsElement(4, left).holdsElement(5, left);
            x.does(1, "multiply", 0, 0, 1, 3).does(1, "multiply", 0, 0, 2, 4);
            int[] one = elementOf(x, 3);
            int[] other = elementOf(x, 4);
            x.ask("setElement", 5, e[3] + e[6], e[4] + e[7], e[5] + e[8]);
            x.does(1, "multiply", 0, 0, 5, 5).holdsElement(5, one[0] + other[0], one[1] + other[1], one[2] + other[2]);
            x.ask("setElement", 5, 1, 0, 0);
            x.does(1, "multiply", 0, 0, 5, 5).holdsElement(5, e[0], e[1], e[2]);
        }
    }

    private static int[] elementOf(Calls x, int register) {
        return new int[] {(int) x.ask("element", register, 0), (int) x.ask("element", register, 1), (int) x.ask("element", register, 2)};
    }

    private static void traceAndNormByMatrix(int[] f, int[] e) {
        int[][] m = new int[3][];
        Calls x = withElements(f, e);
        for (int row = 0; row < 3; row++) {
            x.ask("setElement", 1, row == 0 ? 1 : 0, row == 1 ? 1 : 0, row == 2 ? 1 : 0);
            x.does(1, "multiply", 0, 0, 1, 1);
            m[row] = elementOf(x, 1);
        }
        x.tells(m[0][0] + m[1][1] + m[2][2], "trace", 0, 0);
        x.tells(m[0][0] * (m[1][1] * m[2][2] - m[1][2] * m[2][1]) - m[0][1] * (m[1][0] * m[2][2] - m[1][2] * m[2][0])
                + m[0][2] * (m[1][0] * m[2][1] - m[1][1] * m[2][0]), "norm", 0, 0);
    }

    private static void primes(Sentences doc) {
        doc.says("Primes. All primes in this document are from 2 to 997.", () -> {
            for (String name : new String[] {"splitting", "isMaximalAt", "overring"}) {
                Edges.taken(Calls.with(1, 1, -2, -1), BAD_VALUE, name, 0, 2);
                Edges.taken(Calls.with(1, 1, -2, -1), BAD_VALUE, name, 0, 997);
                Calls.with(1, 1, -2, -1).tells(BAD_VALUE, name, 0, 1).tells(BAD_VALUE, name, 0, 1009).tells(BAD_VALUE, name, 0, 999);
            }
            // The index is 997 here, and 1009 there.
            Calls.with(2, 56, -144, -59, 5, 46, -128, -86).does(2, "maximalOverring", 0).does(3, "maximalOverring", 1)
                    .tells(148, "discriminant", 2).tells(148L * 1009 * 1009, "discriminant", 3);
        });
        doc.says("Roots modulo a prime p. The points are (1, t) for t = 0, 1, ..., p - 1, and (0, 1), in this order.", () -> {
            // A linear form with the root (1, t) or (0, 1), times x^2 + m x y + n y^2, which has no root modulo p.
            int[][] quadratics = {{2, 1, 1}, {3, 0, 1}, {5, 0, -2}, {7, 0, 1}, {11, 0, 1}, {997, 0, -2}};
            for (int[] quadratic : quadratics) {
                int p = quadratic[0];
                for (int t = 0; t < Math.min(p, 140); t++) {
                    rootsOfProduct(p, -t, 1, quadratic[1], quadratic[2]);
                    rootsOfProduct(p, t + 1, 1, quadratic[1], quadratic[2]);
                }
                rootsOfProduct(p, 1, 0, quadratic[1], quadratic[2]);
            }
        });
        doc.says("The form at a point is: for the point (1, t) the form f(x, t x + y), and for the point (0, 1) the form f(y, x).", () -> {
            for (int p : new int[] {2, 3, 5, 7}) {
                // Has the form (p^2, p, 1, 1) at the point (1, t), or at (0, 1).
                int[] atPoint = {p * p, p, 1, 1};
                for (int t = 0; t < p; t++) {
                    Calls.with(Cubics.substituted(atPoint, 1, 0, -t, 1)).does(1, "overring", 0, p).holdsForm(1, 1, 1, 1, p);
                }
                Calls.with(1, 1, p, p * p).does(1, "overring", 0, p).holdsForm(1, 1, 1, 1, p);
            }
            // The first, the last but one and the last of the 998 points.
            Calls.with(0, 0, 1, 0, 1, 2, 1, 0, 0, 1, 0, 0).does(3, "overring", 0, 997).holdsForm(3, 0, 0, 1, 0)
                    .does(4, "overring", 1, 997).holdsForm(4, 1, 2, 1, 0).does(5, "overring", 2, 997).holdsForm(5, 0, 0, 1, 0);
        });
        doc.says("Let (a', b', c', d') be the form at a point. The point is a root modulo p if p divides a', and a multiple root if p"
                + " divides a' and b'.", () -> {
            // At (1, 0): a' and b' are 0 or 1; no other point is a root unless the two are 0.
            Calls.with(1, 1, 0, 1, 2, 1, 1, 1, 2, 2, 1, 1, 2, 2, 2, 1, 1, 2, 0, 2).tells(3, "splitting", 0, 2).tells(21, "splitting", 1, 2)
                    .tells(121, "splitting", 2, 2).tells(13, "splitting", 3, 2).tells(13, "splitting", 4, 2);
        });
    }

    private static void rootsOfProduct(int p, int l, int k, int m, int n) {
        int[] f = {l, k + l * m, k * m + l * n, k * n};
        Calls.with(f).does(21, "splitting", 0, p);
    }

    private static void maximality(Sentences doc) {
        doc.says("Maximality. Let p be a prime. If p divides all coefficients of f, the ring of f is not maximal at p, and the overring"
                + " at p belongs to the form whose coefficients are those of f divided by p.", () -> {
            Calls.with(2, -4, 6, 8, -300, 300, 300, -300, 0, 0, 0, 0, 293, 0, 0, -293).tells(0, "isMaximalAt", 0, 2)
                    .does(4, "overring", 0, 2).holdsForm(4, 1, -2, 3, 4).tells(0, "isMaximalAt", 1, 5)
                    .does(5, "overring", 1, 5).holdsForm(5, -60, 60, 60, -60).tells(0, "isMaximalAt", 2, 997)
                    .does(6, "overring", 2, 997).holdsForm(6, 0, 0, 0, 0).does(7, "overring", 3, 293).holdsForm(7, 1, 0, 0, -1);
            // Not the form at a point, though a point would do as well.
            Calls.with(4, 2, 2, 4, 9, 3, 3, 3).does(2, "overring", 0, 2).holdsForm(2, 2, 1, 1, 2).does(3, "overring", 1, 3)
                    .holdsForm(3, 3, 1, 1, 1);
            // Three of four are not all.
            Calls.with(3, 2, 2, 2, 2, 3, 2, 2, 2, 2, 3, 2, 2, 2, 2, 3).tells(1, "isMaximalAt", 0, 2).tells(1, "isMaximalAt", 1, 2)
                    .tells(1, "isMaximalAt", 2, 2).tells(1, "isMaximalAt", 3, 2);
        });
        doc.says("Otherwise the ring is not maximal at p if and only if there is a point for which p^2 divides a' and p divides b'; the"
                + " first such point decides, and the overring at p belongs to the form (a' / p^2, b' / p, c', d' * p).", () -> {
            Cubics.eachRow(3, f -> overringByPoints(f, 2));
            Cubics.eachRow(3, f -> overringByPoints(f, 3));
            Cubics.eachRow(2, f -> overringByPoints(new int[] {4 * f[0], 2 * f[1], f[2], f[3]}, 2));
            Cubics.eachRow(2, f -> overringByPoints(new int[] {f[0], f[1], 3 * f[2], 9 * f[3]}, 3));
            Cubics.eachRow(2, f -> overringByPoints(new int[] {25 * f[0], 5 * f[1], f[2], f[3]}, 5));
        });
        doc.says("If the ring is not maximal at p, then p^2 divides the discriminant.", () -> {
            for (int p : new int[] {2, 3, 5, 7}) {
                Cubics.eachRow(2, f -> {
                    int[] g = {p * p * f[0], p * f[1], f[2], f[3]};
                    Calls x = Calls.with(g).does(0, "isMaximalAt", 0, p);
                    Check.same("the rest of the discriminant", x.ask("discriminant", 0) % (p * p), 0);
                });
            }
            // And not the other way round.
            Calls.with(1, 1, -2, -1).tells(49, "discriminant", 0).tells(1, "isMaximalAt", 0, 7);
        });
    }

    private static void overringByPoints(int[] f, int p) {
        Calls x = Calls.with(f);
        if (f[0] % p == 0 && f[1] % p == 0 && f[2] % p == 0 && f[3] % p == 0) {
            x.does(0, "isMaximalAt", 0, p).does(1, "overring", 0, p).holdsForm(1, f[0] / p, f[1] / p, f[2] / p, f[3] / p);
            return;
        }
        for (int t = 0; t <= p; t++) {
            int[] g = t < p ? Cubics.substituted(f, 1, 0, t, 1) : Cubics.substituted(f, 0, 1, 1, 0);
            if (g[0] % (p * p) == 0 && g[1] % p == 0) {
                x.does(0, "isMaximalAt", 0, p).does(1, "overring", 0, p).holdsForm(1, g[0] / (p * p), g[1] / p, g[2], g[3] * p);
                return;
            }
        }
        x.tells(1, "isMaximalAt", 0, p).tells(NONE, "overring", 0, p);
    }

    private static void errors(Sentences doc) {
        doc.says("Errors. Errors are reported by the constants below; methods that return a long report every error by NO_VALUE.", () -> {
            Set<String> longs = new TreeSet<>();
            for (Method method : CubicForms.class.getDeclaredMethods()) {
                if (method.getReturnType() == long.class && Modifier.isPublic(method.getModifiers())) {
                    longs.add(method.getName());
                }
            }
            Check.holds("the methods that return a long", longs.equals(new TreeSet<>(Arrays.asList("discriminant", "hessian", "value",
                    "trace", "norm", "traceDeterminant", "elementIndex"))));
            Calls x = Calls.with(1, 1, -2, -1).tells(NO_VALUE, "discriminant", 1).tells(NO_VALUE, "traceDeterminant", 1);
            x.tells(NO_VALUE, "hessian", 1, 0).tells(NO_VALUE, "hessian", 0, 3);
            x.tells(NO_VALUE, "value", 1, 0, 0).tells(NO_VALUE, "value", 0, 1001, 0).tells(NO_VALUE, "value", 0, 0, 1001);
            for (String name : new String[] {"trace", "norm", "elementIndex"}) {
                x.tells(NO_VALUE, name, 1, 0).tells(NO_VALUE, name, 0, 6);
            }
        });
        doc.says("Where several errors can apply, the order of the @return line is the order of the checks.", DescriptionTest::orderOfErrors);
        doc.says("A call that reports an error changes nothing.", DescriptionTest::errorsChangeNothing);
    }

    private static void orderOfErrors() {
        // Number 0 is irreducible and not maximal at 2; 1 reducible; 2 not positive and reducible; 3 and 4 have large canonical
        // forms, 4 is reducible; 5 has a large overring at 307; the rest are zero forms.
        int[] forms = {8, 4, -4, -1, 0, 1, -1, 0, 1, 2, 1, 0, 1, 250, -300, -263, 0, 1, 299, 1, 0, 0, 1, 1};
        Calls full = Calls.full(forms).does(1, "setElement", 0, 100, 100, 100);
        full.tells(BAD_VALUE, "addForm", 301, 0, 0, 0);
        full.tells(NO_SUCH_FORM, "coefficient", 60, 4);
        full.tells(NO_SUCH_FORM, "substitute", 60, 1, 1, 1, 1).tells(NO_SUCH_FORM, "substitute", 60, 1, 0, 0, 1)
                .tells(BAD_VALUE, "substitute", 0, 1, 101, 0, 1).tells(BAD_VALUE, "substitute", 0, 2, 100, 0, 1)
                .tells(OVERFLOW, "substitute", 0, 1, 100, 0, 1).tells(FULL, "substitute", 0, 1, 0, 0, 1);
        full.tells(NO_SUCH_FORM, "canonical", 60).tells(NOT_POSITIVE, "canonical", 2).tells(OVERFLOW, "canonical", 3)
                .tells(OVERFLOW, "canonical", 4).tells(FULL, "canonical", 0);
        full.tells(NO_SUCH_FORM, "areEquivalent", 2, 60).tells(NO_SUCH_FORM, "areEquivalent", 60, 2);
        full.tells(NO_SUCH_REGISTER, "setElement", 6, 101, 0, 0).tells(NO_SUCH_REGISTER, "element", 6, 3);
        full.tells(NO_SUCH_FORM, "multiply", 60, 6, 6, 6).tells(NO_SUCH_FORM, "multiply", 60, 0, 0, 0)
                .tells(NO_SUCH_REGISTER, "multiply", 0, 0, 0, 6).tells(OVERFLOW, "multiply", 0, 0, 0, 0);
        full.tells(NO_SUCH_FORM, "splitting", 60, 4).tells(NO_SUCH_FORM, "isMaximalAt", 60, 4);
        full.tells(NO_SUCH_FORM, "overring", 60, 4).tells(NO_SUCH_FORM, "overring", 60, 2).tells(BAD_VALUE, "overring", 0, 4)
                .tells(NONE, "overring", 1, 2).tells(OVERFLOW, "overring", 5, 307).tells(FULL, "overring", 0, 2);
        full.tells(NO_SUCH_FORM, "maximalOverring", 60).tells(NOT_POSITIVE, "maximalOverring", 2).tells(REDUCIBLE, "maximalOverring", 4)
                .tells(REDUCIBLE, "maximalOverring", 1).tells(OVERFLOW, "maximalOverring", 3).tells(FULL, "maximalOverring", 0);
    }

    /** Every refusal there is, in a store that is not full; tells() looks at all forms and registers each time. */
    private static void errorsChangeNothing() {
        int[] forms = {1, 1, -2, -1, 1, 0, 0, -2, 0, 1, -1, 0, 1, 250, -300, -263, 0, 0, 1, 1};
        Calls x = Calls.with(forms).does(1, "setElement", 0, 100, 99, 98).does(1, "setElement", 5, 1, 2, 3);
        x.tells(BAD_VALUE, "addForm", 0, 0, 0, 301);
        x.tells(NO_SUCH_FORM, "substitute", 5, 1, 0, 0, 1).tells(BAD_VALUE, "substitute", 0, 1, 1, 1, 1)
                .tells(OVERFLOW, "substitute", 0, 1, 100, 0, 1);
        x.tells(NO_SUCH_FORM, "canonical", 5).tells(NOT_POSITIVE, "canonical", 1).tells(OVERFLOW, "canonical", 3);
        x.tells(NO_SUCH_FORM, "areEquivalent", 0, 5).tells(NOT_POSITIVE, "areEquivalent", 0, 1);
        x.tells(NO_SUCH_FORM, "automorphismCount", 5).tells(NOT_POSITIVE, "automorphismCount", 1);
        x.tells(NO_SUCH_REGISTER, "setElement", 6, 1, 1, 1).tells(BAD_VALUE, "setElement", 0, 0, 0, 101)
                .tells(BAD_VALUE, "setElement", 5, 101, 0, 0);
        x.tells(NO_SUCH_FORM, "multiply", 5, 5, 5, 0).tells(NO_SUCH_REGISTER, "multiply", 0, 5, 5, 6)
                .tells(OVERFLOW, "multiply", 0, 0, 0, 5).tells(OVERFLOW, "multiply", 0, 0, 5, 0);
        x.tells(NO_SUCH_FORM, "splitting", 5, 2).tells(BAD_VALUE, "splitting", 0, 4);
        x.tells(NO_SUCH_FORM, "isMaximalAt", 5, 2).tells(BAD_VALUE, "isMaximalAt", 0, 4);
        x.tells(NO_SUCH_FORM, "overring", 5, 2).tells(BAD_VALUE, "overring", 0, 4).tells(NONE, "overring", 0, 7)
                .tells(OVERFLOW, "overring", 4, 307);
        x.tells(NO_SUCH_FORM, "maximalOverring", 5).tells(NOT_POSITIVE, "maximalOverring", 1).tells(REDUCIBLE, "maximalOverring", 2)
                .tells(OVERFLOW, "maximalOverring", 3);
        x.tells(BAD_VALUE, "countForms", 0).tells(BAD_VALUE, "countFields", 1001).tells(BAD_VALUE, "fieldDiscriminant", -1)
                .tells(NONE, "fieldDiscriminant", 27);
        // The next form gets the next number.
        x.does(5, "addForm", 7, 7, 7, 7).holdsForm(5, 7, 7, 7, 7).holdsForm(4, 0, 0, 1, 1).holdsElement(0, 100, 99, 98)
                .holdsElement(5, 1, 2, 3);
    }

    private static void examples(Sentences doc) {
        String[] firsts = {"1. A form with the discriminant 49:", "2. Overrings:", "3. Multiplication in the ring of a form:",
            "4. Fields of small discriminant:"};
        String[] lasts = {"isMaximalAt(0, 7) = 1.", "canonical(9) = -10001.", "multiply(0, 3, 3, 3) = -10005.", "countForms(0) = -10003."};
        int[] numbers = {16, 12, 15, 8};
        doc.says("Examples: Each of them begins with a new object; the results are given behind the calls.", () -> {
            Check.same("the number of examples", doc.all("^(\\d)\\. .*= -?\\d+\\.$").size(), firsts.length);
        });
        for (int i = 0; i < firsts.length; i++) {
            String example = doc.passage(firsts[i], lasts[i]);
            int number = numbers[i];
            doc.says(example, () -> {
                Calls x = new Calls();
                does(x, example);
                Check.same("the number of calls in the example", x.count(), number);
            });
        }
    }

    private static void constants(Sentences doc) {
        doc.says("`NO_SUCH_FORM = -10001`: There is no stored form with this number.", () -> {
            Check.same("NO_SUCH_FORM", CubicForms.NO_SUCH_FORM, -10001);
            Calls.with(1, 1, 1, 1).tells(-10001, "isReducible", 1).tells(-10001, "isReducible", -1);
        });
        doc.says("`NO_SUCH_REGISTER = -10002`: There is no element register with this number.", () -> {
            Check.same("NO_SUCH_REGISTER", CubicForms.NO_SUCH_REGISTER, -10002);
            new Calls().tells(-10002, "element", 6, 0).tells(-10002, "element", -1, 0);
        });
        doc.says("`BAD_VALUE = -10003`: Another argument is out of range.", () -> {
            Check.same("BAD_VALUE", CubicForms.BAD_VALUE, -10003);
            new Calls().tells(-10003, "addForm", 301, 0, 0, 0).tells(-10003, "element", 0, 3).tells(-10003, "countForms", 0);
        });
        doc.says("`FULL = -10004`: There are already 60 stored forms.", () -> {
            Check.same("FULL", CubicForms.FULL, -10004);
            String[] storing = {"addForm(1, 1, 1, 1) = ", "substitute(0, 1, 0, 0, 1) = ", "canonical(0) = ", "overring(0, 2) = ",
                "maximalOverring(0) = "};
            for (String call : storing) {
                // 59 forms leave room for one more.
                Calls x = Calls.withRoomFor(1, 8, 4, -4, -1);
                does(x, call + "59");
                x.holdsForms(60);
                does(x, call + "-10004");
                x.holdsForms(60);
            }
        });
        doc.says("`OVERFLOW = -10005`: A result does not fit into the range of its kind.", () -> {
            Check.same("OVERFLOW", CubicForms.OVERFLOW, -10005);
            Calls.with(300, 0, 0, 1).tells(-10005, "substitute", 0, 1, 1, 0, 1).does(1, "setElement", 0, 11, 0, 0)
                    .tells(-10005, "multiply", 0, 0, 0, 0);
        });
        doc.says("`NOT_POSITIVE = -10006`: The discriminant is not positive.", () -> {
            Check.same("NOT_POSITIVE", CubicForms.NOT_POSITIVE, -10006);
            Calls.with(0, 0, 0, 0, 0, 1, 1, 1).tells(-10006, "canonical", 0).tells(-10006, "canonical", 1);
        });
        doc.says("`REDUCIBLE = -10007`: The form is reducible.", () -> {
            Check.same("REDUCIBLE", CubicForms.REDUCIBLE, -10007);
            Calls.with(0, 1, -1, 0).tells(-10007, "maximalOverring", 0);
        });
        doc.says("`NONE = -10008`: There is no result.", () -> {
            Check.same("NONE", CubicForms.NONE, -10008);
            Calls.with(1, 1, -2, -1).tells(-10008, "overring", 0, 2).tells(-10008, "fieldDiscriminant", 27);
        });
        doc.says("`NO_VALUE = Long.MIN_VALUE`: The error value of methods that return a long.", () -> {
            Check.same("NO_VALUE", CubicForms.NO_VALUE, Long.MIN_VALUE);
            new Calls().tells(Long.MIN_VALUE, "discriminant", 0);
        });
        doc.says("The constructor and the methods follow, a promise each: the signature, then what it does.", () -> {
            Set<String> promised = new TreeSet<>();
            for (String signature : doc.all("^`(\\w+ \\w+\\(.*\\))`$")) {
                promised.add(signature.replaceAll("int \\w+(?=[,)])", "int"));
            }
            Set<String> there = new TreeSet<>();
            for (Method method : CubicForms.class.getDeclaredMethods()) {
                if (Modifier.isPublic(method.getModifiers())) {
                    String types = Arrays.toString(method.getParameterTypes());
                    there.add(method.getReturnType() + " " + method.getName() + "(" + types.substring(1, types.length() - 1) + ")");
                }
            }
            Check.holds("the methods " + there + " that are promised: " + promised, there.equals(promised));
            Check.same("the number of promises", doc.all("^## Promise (\\d+): ").size(), promised.size() + 1);
            Check.same("the number of sections", doc.all("^## (.*)$").size(), promised.size() + 1 + 4);
        });
    }

    private static void notPromised(Sentences doc) {
        doc.section("Not promised");
        doc.says("How the state is held inside the object is free, as are the speed of each call, the text of toString and the behaviour of"
                + " equals and hashCode.", () -> {
            // What is inside one object is no matter to another.
            Calls one = Calls.with(1, 2, 3, 4).does(1, "setElement", 0, 1, 2, 3);
            Calls other = new Calls().does(0, "addForm", 5, 6, 7, 8).does(1, "setElement", 0, 4, 5, 6);
            one.holdsForm(0, 1, 2, 3, 4).holdsElement(0, 1, 2, 3);
            other.holdsForm(0, 5, 6, 7, 8).holdsElement(0, 4, 5, 6).does(1, "clearForms");
            one.holdsForms(1);
        });
        doc.says("Use of one object from several threads at once is not promised to be safe.", DescriptionTest::objectsInTwoThreads);
        doc.says("Nothing is promised beyond the answers and state changes described above, and nothing about an object after its 512th"
                + " call.", () -> {
            // But no call throws or fails to end, by LANGUAGE.md, rule 7.
            Random random = new Random(512);
            Calls x = new Calls();
            for (int call = 0; call < 4000; call++) {
                Matcher m = CALL.matcher(EACH_METHOD[random.nextInt(EACH_METHOD.length)]);
                m.find();
                int[] arguments = new int[m.group(2).isEmpty() ? 0 : m.group(2).split(", ").length];
                for (int i = 0; i < arguments.length; i++) {
                    arguments[i] = random.nextInt(3) == 0 ? random.nextInt() : random.nextInt(13) - 3;
                }
                x.askForNothing(m.group(1), arguments);
            }
        });
    }

    /** Two objects, an object to a thread: only one object in two threads is not promised. */
    private static void objectsInTwoThreads() {
        long[] answers = new long[2];
        Thread[] threads = new Thread[2];
        for (int i = 0; i < 2; i++) {
            int place = i;
            threads[i] = new Thread(() -> {
                CubicForms x = new CubicForms();
                for (int call = 0; call < 200; call++) {
                    x.clearForms();
                    x.addForm(1 + place, 1, -2, -1);
                    answers[place] += x.discriminant(0) + x.countFields(1000);
                }
            });
            threads[i].start();
        }
        for (Thread thread : threads) {
            try {
                thread.join();
            } catch (InterruptedException e) {
                Check.fault("interrupted");
            }
        }
        Check.same("the answers of the first object", answers[0], 200 * (49 + 27));
        Check.same("the answers of the second object", answers[1], 200 * (Cubics.discriminant(new int[] {2, 1, -2, -1}) + 27));
    }
}
