import java.util.Arrays;

/** Promises 10 to 12, sentence by sentence: canonical forms, equivalence and automorphisms. */
public final class EquivalenceTest implements Codes {
    /** Its canonical form is (0, -1, -1, 22349): too large to be stored. */
    private static final int[] LARGE = {0, 1, 299, 1};

    public static void main(String[] args) {
        Sentences doc = new Sentences();
        canonical(doc);
        areEquivalent(doc);
        automorphismCount(doc);
        doc.end();
    }

    private static void canonical(Sentences doc) {
        doc.section("Promise 10: canonical");
        doc.says("Stores the canonical form of a form as a new form.", () -> {
            Calls x = Calls.with(1, 1, -2, -1, 1, 0, -3, 1, 0, 1, -1, 0);
            x.does(3, "canonical", 0).holdsForm(3, -1, -2, 1, 1).holdsForm(0, 1, 1, -2, -1);
            x.does(4, "canonical", 3).holdsForm(4, -1, -2, 1, 1);
            x.does(5, "canonical", 1).holdsForm(5, -1, -3, 0, 1);
            x.does(6, "canonical", 2).holdsForm(6, 0, -1, -1, 0);
        });
        doc.says("`form`: number of a stored form", () -> Edges.form(NO_SUCH_FORM, 0, "canonical", 0));
        doc.says("Returns the number of the new form", () -> {
            Calls.with(0, 0, 0, 0, 1, 1, -2, -1).does(2, "canonical", 1).does(3, "canonical", 1).holdsForms(4);
            Calls.withRoomFor(1, 1, 1, -2, -1).does(59, "canonical", 0).holdsForm(59, -1, -2, 1, 1).holdsForms(60);
        });
        doc.says("NO_SUCH_FORM", () -> {
            Calls.with(1, 1, -2, -1).tells(NO_SUCH_FORM, "canonical", 1).tells(NO_SUCH_FORM, "canonical", -1);
            Calls.full().tells(NO_SUCH_FORM, "canonical", 60);
        });
        doc.says("NOT_POSITIVE", () -> {
            notPositiveIsRefused("canonical");
            Calls.full().tells(NOT_POSITIVE, "canonical", 59);
        });
        doc.says("OVERFLOW if a coefficient of the canonical form is not from -300 to 300", EquivalenceTest::canonicalFormsAtTheEdge);
        doc.says("FULL.", () -> {
            Calls.full(1, 1, -2, -1).tells(FULL, "canonical", 0).tells(NOT_POSITIVE, "canonical", 1).tells(NO_SUCH_FORM, "canonical", 60);
            Calls.full(LARGE).tells(OVERFLOW, "canonical", 0);
        });
    }

    /** The discriminants are 1, the least positive one; then 0, -3 next to it, and others. */
    private static void notPositiveIsRefused(String name) {
        Calls x = Calls.with(0, 1, -1, 0, 1, 2, 1, 0, 0, 1, 1, 1, 0, 0, 0, 0, 1, 0, 0, -2, 300, 300, -300, 300);
        Edges.taken(x, NOT_POSITIVE, name, 0);
        for (int form = 1; form <= 5; form++) {
            x.tells(NOT_POSITIVE, name, form);
        }
    }

    private static void canonicalFormsAtTheEdge() {
        // b, c and d in turn; a and the other signs are never so large, as the Hessian is reduced.
        Calls x = Calls.with(299, 104, -300, -20, 158, 119, -203, -75, -300, -237, 188, 26);
        x.does(3, "canonical", 0).holdsForm(3, -20, -300, 104, 299);
        x.does(4, "canonical", 1).holdsForm(4, -75, -22, 300, 89);
        x.does(5, "canonical", 2).holdsForm(5, -26, -188, 237, 300);
        // (-42, -301, 157, 140), (-26, -34, 301, -49) and (-5, -100, 174, 301)
        Calls.with(140, -263, -195, 276, -26, -112, 155, 192, 5, -130, 286, 209).tells(OVERFLOW, "canonical", 0)
                .tells(OVERFLOW, "canonical", 1).tells(OVERFLOW, "canonical", 2);
        // y (x^2 + c x y + y^2): its canonical form is y (x^2 + (1 - c^2/4) y^2), negated, for an even c.
        Calls.with(0, 1, 34, 1, 0, 1, 36, 1).does(2, "canonical", 0).holdsForm(2, 0, -1, 0, 288).tells(OVERFLOW, "canonical", 1);
        Calls.with(0, 1, 0, -300, 0, 1, 2, -300).does(2, "canonical", 0).holdsForm(2, 0, -1, 0, 300).tells(OVERFLOW, "canonical", 1);
        Calls.with(LARGE).tells(OVERFLOW, "canonical", 0);
    }

    private static void areEquivalent(Sentences doc) {
        doc.section("Promise 11: areEquivalent");
        doc.says("Tells whether two forms are equivalent.", () -> {
            Calls x = Calls.with(1, 1, -2, -1, 1, 0, -3, 1, -1, -1, 2, 1, 1, -2, -1, 1);
            x.does(4, "substitute", 0, 2, 1, 1, 1);
            x.tells(1, "areEquivalent", 0, 0).tells(1, "areEquivalent", 0, 4).tells(1, "areEquivalent", 4, 0);
            x.tells(1, "areEquivalent", 0, 2).tells(1, "areEquivalent", 3, 0).tells(0, "areEquivalent", 0, 1);
        });
        doc.says("(Their canonical forms need not fit into the range of stored forms; they fit into 64 bits.)", () -> {
            Calls x = Calls.with(0, 1, 299, 1, 0, -1, 299, -1, 0, 1, 297, -297, 0, 1, 297, -298);
            for (int form = 0; form < 4; form++) {
                x.tells(OVERFLOW, "canonical", form);
            }
            x.tells(1, "areEquivalent", 0, 1).tells(1, "areEquivalent", 0, 2).tells(0, "areEquivalent", 0, 3).tells(1, "areEquivalent", 3, 3);
            x.tells(299 * 299 - 4, "discriminant", 0);
            // No coefficient of these four is small.
            Calls.with(140, -263, -195, 276, -276, 195, 263, -140, 140, 263, -195, -276, 140, -263, -195, 275)
                    .tells(1, "areEquivalent", 0, 1).tells(1, "areEquivalent", 2, 1).tells(0, "areEquivalent", 0, 3);
        });
        doc.says("`first`: number of a stored form", () -> Edges.form(NO_SUCH_FORM, 0, "areEquivalent", 0, 0));
        doc.says("`second`: number of a stored form", () -> Edges.form(NO_SUCH_FORM, 1, "areEquivalent", 0, 0));
        doc.says("Returns 1 if they are equivalent", EquivalenceTest::equivalentForms);
        doc.says("otherwise 0", EquivalenceTest::formsThatAreNotEquivalent);
        doc.says("NO_SUCH_FORM if first or second is not valid", () -> Calls.with(1, 0, 0, -2, 1, 1, -2, -1)
                .tells(NO_SUCH_FORM, "areEquivalent", 2, 1).tells(NO_SUCH_FORM, "areEquivalent", 1, 2)
                .tells(NO_SUCH_FORM, "areEquivalent", 2, 0).tells(NO_SUCH_FORM, "areEquivalent", 0, 2)
                .tells(NO_SUCH_FORM, "areEquivalent", -1, 0).tells(NO_SUCH_FORM, "areEquivalent", 0, -1)
                .tells(NO_SUCH_FORM, "areEquivalent", 2, 2));
        doc.says("NOT_POSITIVE if one of the discriminants is not positive.", () -> {
            // Discriminants 49, -108, 0, 1 and -3.
            Calls x = Calls.with(1, 1, -2, -1, 1, 0, 0, -2, 0, 0, 0, 0, 0, 1, -1, 0, 0, 1, 1, 1);
            for (int bad : new int[] {1, 2, 4}) {
                x.tells(NOT_POSITIVE, "areEquivalent", 0, bad).tells(NOT_POSITIVE, "areEquivalent", bad, 0);
                x.tells(NOT_POSITIVE, "areEquivalent", bad, bad).tells(NOT_POSITIVE, "areEquivalent", bad, 2);
            }
            x.tells(0, "areEquivalent", 0, 3).tells(1, "areEquivalent", 3, 3);
        });
    }

    private static void equivalentForms() {
        // By a determinant of -1 alone: this form has no automorphism but one.
        Calls.with(-1, -1, 3, 1, -1, 1, 3, -1, 1, 3, -1, -1).tells(1, "areEquivalent", 0, 1).tells(1, "areEquivalent", 0, 2)
                .tells(1, "areEquivalent", 1, 2);
        // A store that is full is no matter, as nothing is stored.
        Calls.full(1, 1, -2, -1).tells(1, "areEquivalent", 0, 0);
        // Substitutions with large entries.
        Calls x = Calls.with(0, 1, -1, 0).does(1, "substitute", 0, 7, 6, 1, 1).does(2, "substitute", 0, 1, 1, 6, 7);
        x.holdsForm(1, 42, 113, 101, 30).holdsForm(2, -30, -101, -113, -42);
        x.tells(1, "areEquivalent", 0, 1).tells(1, "areEquivalent", 2, 1);
    }

    private static void formsThatAreNotEquivalent() {
        // Canonical forms that differ in a, b, c or d alone.
        int[][] pairs = {{-3, -6, 3, 3, -2, -6, 3, 3}, {-3, -5, 6, 3, -3, -4, 6, 3}, {-3, -5, 4, 3, -3, -5, 6, 3},
            {-3, -5, 6, 3, -3, -5, 6, 4}};
        for (int[] pair : pairs) {
            Calls.with(pair).tells(0, "areEquivalent", 0, 1).tells(0, "areEquivalent", 1, 0);
        }
        // All three have the discriminant 16.
        Calls.with(0, 1, 4, 0, 0, 2, 2, 0, 0, 4, 1, 0).tells(0, "areEquivalent", 0, 1).tells(1, "areEquivalent", 0, 2);
        // All three are irreducible and have the Hessian (63, 63, 63), so the same discriminant.
        Calls x = Calls.with(-3, -6, 3, 3, -2, -9, -3, 2, -1, -9, -6, 1);
        for (int form = 0; form < 3; form++) {
            x.tells(3969, "discriminant", form).tells(63, "hessian", form, 1).tells(0, "areEquivalent", form, (form + 1) % 3);
        }
    }

    private static void automorphismCount(Sentences doc) {
        doc.section("Promise 12: automorphismCount");
        doc.says("Counts the substitutions that take a form to itself.", EquivalenceTest::countedByDefinition);
        doc.says("`form`: number of a stored form", () -> Edges.form(NO_SUCH_FORM, 0, "automorphismCount", 0));
        doc.says("Returns their number", () -> {
            Calls x = Calls.with(1, -1, -4, 1, 0, 1, 1, -1, 1, 1, -2, -1, 0, 1, -1, 0, 1, 0, -2, 0);
            x.tells(1, "automorphismCount", 0).tells(2, "automorphismCount", 1).tells(3, "automorphismCount", 2)
                    .tells(6, "automorphismCount", 3).tells(2, "automorphismCount", 4);
            // As many for an equivalent form whose Hessian is far from reduced.
            x.does(5, "substitute", 3, 3, 2, 1, 1).tells(6, "automorphismCount", 5);
            x.does(6, "substitute", 2, 3, 2, 1, 1).tells(3, "automorphismCount", 6);
            // A canonical form that is too large, and a store that is full, are no matter.
            Calls.full(LARGE).tells(2, "automorphismCount", 0);
        });
        doc.says("NO_SUCH_FORM", () -> Calls.with(1, 0, 0, -2).tells(NO_SUCH_FORM, "automorphismCount", 1)
                .tells(NO_SUCH_FORM, "automorphismCount", -1));
        doc.says("NOT_POSITIVE.", () -> notPositiveIsRefused("automorphismCount"));
    }

    /** Tries all substitutions with entries from -4 to 4, more than small forms need. */
    private static void countedByDefinition() {
        int[][] forms = {{1, 1, -2, -1}, {1, 0, -3, 1}, {1, -1, -4, 1}, {0, 1, -1, 0}, {0, 1, 1, -1}, {1, 0, -2, 0}, {2, 3, -3, -2},
            {-2, -3, 6, 1}, {-2, 0, 6, -1}, {-2, -6, 3, 4}, {0, 2, 2, 0}, {1, 3, 2, 0}, {1, 4, 3, -1}};
        for (int[] f : forms) {
            int[] count = {0};
            Cubics.eachSubstitution(4, m -> count[0] += Arrays.equals(Cubics.substituted(f, m), f) ? 1 : 0);
            Calls.with(f).tells(count[0], "automorphismCount", 0);
        }
    }
}
