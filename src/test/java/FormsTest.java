/** Promises 1 to 9, sentence by sentence: a new object, and the forms. */
public final class FormsTest implements Codes {
    public static void main(String[] args) {
        Sentences doc = new Sentences();
        newObject(doc);
        addForm(doc);
        clearForms(doc);
        coefficient(doc);
        discriminant(doc);
        hessian(doc);
        value(doc);
        substitute(doc);
        isReducible(doc);
        doc.end();
    }

    private static void newObject(Sentences doc) {
        doc.section("Promise 1: A new object");
        doc.says("Creates a library without stored forms", () -> {
            new Calls().holdsForms(0).tells(NO_SUCH_FORM, "coefficient", 0, 0).tells(NO_VALUE, "discriminant", 0);
            new Calls().does(0, "clearForms").does(0, "addForm", 1, 2, 3, 4);
            Calls.full();
            new Calls().holdsForms(0);
        });
        doc.says("all registers hold (0, 0, 0).", () -> {
            Calls x = new Calls();
            for (int register = 0; register < 6; register++) {
                x.tells(0, "element", register, 0).tells(0, "element", register, 1).tells(0, "element", register, 2);
                x.does(1, "setElement", register, 1, 2, 3);
            }
            new Calls().holdsElement(0, 0, 0, 0).holdsElement(5, 0, 0, 0);
        });
    }

    private static void addForm(Sentences doc) {
        doc.section("Promise 2: addForm");
        doc.says("Stores a form.", () -> new Calls().does(0, "addForm", 1, -2, 3, -4).holdsForm(0, 1, -2, 3, -4).holdsForms(1));
        String[] lines = {"`a`: coefficient of x^3, from -300 to 300", "`b`: coefficient of x^2 y, from -300 to 300",
            "`c`: coefficient of x y^2, from -300 to 300", "`d`: coefficient of y^3, from -300 to 300"};
        for (int k = 0; k < 4; k++) {
            int place = k;
            doc.says(lines[place], () -> {
                Edges.range(Calls::new, BAD_VALUE, -300, 300, place, "addForm", 7, 8, 9, 10);
                int[] form = {7, 8, 9, 10};
                form[place] = 300;
                Calls x = new Calls().does(0, "addForm", form).holdsForm(0, form);
                form[place] = -300;
                x.does(1, "addForm", form).holdsForm(1, form);
            });
        }
        doc.says("Returns the number of the form", () -> {
            Calls x = new Calls();
            for (int number = 0; number < 60; number++) {
                x.does(number, "addForm", number, 1, 2, -number);
            }
            x.holdsForm(0, 0, 1, 2, 0).holdsForm(30, 30, 1, 2, -30).holdsForm(59, 59, 1, 2, -59);
            x.does(60, "clearForms").does(0, "addForm", 5, 5, 5, 5).does(1, "addForm", 6, 6, 6, 6);
        });
        doc.says("BAD_VALUE", () -> {
            Calls x = Calls.with(1, 2, 3, 4);
            x.tells(BAD_VALUE, "addForm", 301, -301, 301, -301).tells(BAD_VALUE, "addForm", 0, 0, 0, -301);
            x.does(1, "addForm", 5, 6, 7, 8).holdsForm(1, 5, 6, 7, 8);
        });
        doc.says("FULL.", () -> {
            Calls.withRoomFor(1).does(59, "addForm", 1, 2, 3, 4).tells(FULL, "addForm", 1, 2, 3, 4).holdsForm(59, 1, 2, 3, 4);
            Calls x = Calls.full();
            x.tells(FULL, "addForm", 0, 0, 0, 0).tells(FULL, "addForm", 300, -300, 300, -300);
            x.tells(BAD_VALUE, "addForm", 301, 0, 0, 0).tells(BAD_VALUE, "addForm", 0, 0, 0, -301);
            x.does(60, "clearForms").does(0, "addForm", 1, 2, 3, 4);
        });
    }

    private static void clearForms(Sentences doc) {
        doc.section("Promise 3: clearForms");
        doc.says("Removes all stored forms.", () -> {
            Calls x = Calls.with(1, 2, 3, 4, 5, 6, 7, 8).does(2, "clearForms").holdsForms(0);
            x.tells(NO_SUCH_FORM, "coefficient", 0, 0).tells(NO_SUCH_FORM, "coefficient", 1, 0).tells(NO_VALUE, "discriminant", 1);
            x.does(0, "addForm", 9, 9, 9, 9).tells(NO_SUCH_FORM, "coefficient", 1, 0).holdsForm(0, 9, 9, 9, 9);
        });
        doc.says("The registers stay.", () -> {
            Calls x = Calls.with(1, 2, 3, 4).does(1, "setElement", 0, 7, 8, 9).does(1, "setElement", 5, -100, 100, -1);
            x.does(1, "clearForms").holdsElement(0, 7, 8, 9).holdsElement(5, -100, 100, -1).holdsElement(1, 0, 0, 0);
        });
        doc.says("Returns the number of forms removed.", () -> {
            new Calls().does(0, "clearForms").does(0, "clearForms");
            Calls.with(1, 2, 3, 4).does(1, "clearForms").does(0, "clearForms");
            Calls.withRoomFor(1).does(59, "clearForms");
            Calls.full().tells(FULL, "addForm", 1, 1, 1, 1).does(60, "clearForms").does(0, "clearForms");
        });
    }

    private static void coefficient(Sentences doc) {
        doc.section("Promise 4: coefficient");
        doc.says("`form`: number of a stored form", () -> Edges.form(NO_SUCH_FORM, 0, "coefficient", 0, 3));
        doc.says("`k`: 0 for a, 1 for b, 2 for c, 3 for d", () -> {
            Edges.range(() -> Calls.with(1, -2, 3, -4), BAD_VALUE, 0, 3, 1, "coefficient", 0, 0);
            // A place behind the last is not the first of the next form.
            Calls.with(1, -2, 3, -4, 5, 6, 7, 8).tells(BAD_VALUE, "coefficient", 0, 4).tells(BAD_VALUE, "coefficient", 1, -1);
        });
        doc.says("Returns the coefficient", () -> {
            Calls x = Calls.with(1, -2, 3, -4, -300, 300, 300, -300);
            x.tells(1, "coefficient", 0, 0).tells(-2, "coefficient", 0, 1).tells(3, "coefficient", 0, 2).tells(-4, "coefficient", 0, 3);
            x.holdsForm(1, -300, 300, 300, -300);
        });
        doc.says("NO_SUCH_FORM", () -> Calls.with(1, 2, 3, 4).tells(NO_SUCH_FORM, "coefficient", 1, 0)
                .tells(NO_SUCH_FORM, "coefficient", 1, 4).tells(NO_SUCH_FORM, "coefficient", -1, -1));
        doc.says("BAD_VALUE.", () -> Calls.with(1, 2, 3, 4).tells(BAD_VALUE, "coefficient", 0, 4).tells(BAD_VALUE, "coefficient", 0, -1));
    }

    private static void discriminant(Sentences doc) {
        doc.section("Promise 5: discriminant");
        doc.says("`form`: number of a stored form", () -> Edges.form(NO_VALUE, 0, "discriminant", 0));
        doc.says("Returns the discriminant", () -> {
            Calls.with(1, 1, -2, -1, 1, 0, 0, -2, 2, 3, -5, 4).tells(49, "discriminant", 0).tells(-108, "discriminant", 1)
                    .tells(-3095, "discriminant", 2);
            // The least positive ones and the negative one next to 0, and 0 itself.
            Calls.with(0, 1, -1, 0, 0, 1, 1, 1, 0, 0, 0, 0, 1, 2, 1, 0).tells(1, "discriminant", 0).tells(-3, "discriminant", 1)
                    .tells(0, "discriminant", 2).tells(0, "discriminant", 3);
            // Far beyond 32 bits on both sides.
            Calls.with(300, 300, -300, 300, -122, -300, 300, 300, 0, 300, 300, -300, 300, -300, -300, 300)
                    .tells(-356400000000L, "discriminant", 0).tells(76799880000L, "discriminant", 1)
                    .tells(40500000000L, "discriminant", 2).tells(0, "discriminant", 3);
        });
        doc.says("NO_VALUE if form is not valid.", () -> Calls.with(1, 1, -2, -1).tells(NO_VALUE, "discriminant", 1)
                .tells(NO_VALUE, "discriminant", -1).does(1, "clearForms").tells(NO_VALUE, "discriminant", 0));
    }

    private static void hessian(Sentences doc) {
        doc.section("Promise 6: hessian");
        doc.says("`form`: number of a stored form", () -> Edges.form(NO_VALUE, 0, "hessian", 0, 2));
        doc.says("`k`: 0 for P, 1 for Q, 2 for R", () -> Edges.range(() -> Calls.with(2, 3, -5, 4), NO_VALUE, 0, 2, 1, "hessian", 0, 0));
        doc.says("Returns the coefficient of the Hessian", () -> {
            Calls.with(2, 3, -5, 4).tells(39, "hessian", 0, 0).tells(-87, "hessian", 0, 1).tells(-11, "hessian", 0, 2);
            // The largest and the least that the coefficients allow.
            Calls.with(300, 300, -300, -300).tells(360000, "hessian", 0, 0).tells(720000, "hessian", 0, 1).tells(360000, "hessian", 0, 2);
            Calls.with(300, 0, 300, 300).tells(-270000, "hessian", 0, 0).tells(-810000, "hessian", 0, 1).tells(90000, "hessian", 0, 2);
            Calls.with(300, 300, 300, -300, -300, 300, -300, -300).tells(900000, "hessian", 0, 1).tells(-900000, "hessian", 1, 1);
            Calls.with(0, 300, 0, 300, 0, 0, 0, 0).tells(-270000, "hessian", 0, 2).tells(0, "hessian", 1, 0);
        });
        doc.says("NO_VALUE if form or k is not valid.", () -> Calls.with(2, 3, -5, 4).tells(NO_VALUE, "hessian", 1, 0)
                .tells(NO_VALUE, "hessian", -1, 0).tells(NO_VALUE, "hessian", 0, 3).tells(NO_VALUE, "hessian", 0, -1)
                .tells(NO_VALUE, "hessian", 1, 3));
    }

    private static void value(Sentences doc) {
        doc.section("Promise 7: value");
        doc.says("`form`: number of a stored form", () -> Edges.form(NO_VALUE, 0, "value", 0, 1, 1));
        doc.says("`x`: from -1000 to 1000", () -> {
            Edges.range(() -> Calls.with(2, 3, -5, 4), NO_VALUE, -1000, 1000, 1, "value", 0, 0, 3);
            Calls.with(2, 3, -5, 4).tells(2000000000L, "value", 0, 1000, 0).tells(-2000000000L, "value", 0, -1000, 0);
        });
        doc.says("`y`: from -1000 to 1000", () -> {
            Edges.range(() -> Calls.with(2, 3, -5, 4), NO_VALUE, -1000, 1000, 2, "value", 0, 3, 0);
            Calls.with(2, 3, -5, 4).tells(4000000000L, "value", 0, 0, 1000).tells(-4000000000L, "value", 0, 0, -1000);
        });
        doc.says("Returns f(x, y)", () -> {
            Calls.with(2, 3, -5, 4).tells(0, "value", 0, 0, 0).tells(2, "value", 0, 1, 0).tells(4, "value", 0, 0, 1)
                    .tells(4, "value", 0, 1, 1).tells(-10, "value", 0, 1, -1).tells(16 - 36 - 90 - 108, "value", 0, 2, -3);
            Calls.with(300, 300, 300, 300).tells(1200000000000L, "value", 0, 1000, 1000).tells(-1200000000000L, "value", 0, -1000, -1000);
            Calls.with(-300, 300, -300, 300).tells(1200000000000L, "value", 0, -1000, 1000).tells(-1200000000000L, "value", 0, 1000, -1000);
        });
        doc.says("NO_VALUE if form is not valid or x or y is out of range.", () -> Calls.with(2, 3, -5, 4)
                .tells(NO_VALUE, "value", 1, 0, 0).tells(NO_VALUE, "value", 0, 1001, 0).tells(NO_VALUE, "value", 0, 0, -1001)
                .tells(NO_VALUE, "value", 0, 1001, 1001).tells(NO_VALUE, "value", 1, 1001, 1001));
    }

    private static void substitute(Sentences doc) {
        doc.section("Promise 8: substitute");
        doc.says("Applies a substitution and stores the result as a new form.", () -> {
            Calls x = Calls.with(1, 2, 3, 4);
            x.does(1, "substitute", 0, 1, 0, 0, 1).holdsForm(1, 1, 2, 3, 4);
            x.does(2, "substitute", 0, 0, 1, 1, 0).holdsForm(2, 4, 3, 2, 1);
            x.does(3, "substitute", 0, 1, 1, 0, 1).holdsForm(3, 1, 5, 10, 10);
            x.does(4, "substitute", 0, 1, 0, 1, 1).holdsForm(4, 10, 20, 15, 4);
            x.does(5, "substitute", 0, 1, -1, 2, -1).holdsForm(5, 49, -85, 50, -10);
            x.does(6, "substitute", 0, -1, 0, 0, -1).holdsForm(6, -1, -2, -3, -4);
            x.does(7, "substitute", 0, 1, 0, 0, -1).holdsForm(7, 1, -2, 3, -4);
            x.does(8, "substitute", 3, 1, -1, 0, 1).holdsForm(8, 1, 2, 3, 4).holdsForm(0, 1, 2, 3, 4);
        });
        doc.says("`form`: number of a stored form", () -> Edges.form(NO_SUCH_FORM, 0, "substitute", 0, 1, 0, 0, 1));
        // The zero form takes all entries without overflow.
        doc.says("`p`: from -100 to 100", () -> entry(1, 0, 0, 1, -1, 0));
        doc.says("`q`: from -100 to 100", () -> entry(2, 0, 1, 0, 0, 1));
        doc.says("`r`: from -100 to 100", () -> entry(3, 0, 1, 0, 0, 1));
        doc.says("`s`: from -100 to 100", () -> entry(4, 0, 0, 1, -1, 0));
        doc.says("Returns the number of the new form", () -> {
            Calls.with(1, 2, 3, 4, 5, 6, 7, 8).does(2, "substitute", 1, 1, 0, 0, 1).holdsForm(2, 5, 6, 7, 8).holdsForms(3);
            Calls.withRoomFor(1, 1, 2, 3, 4).does(59, "substitute", 0, 0, 1, 1, 0).holdsForm(59, 4, 3, 2, 1).holdsForms(60);
        });
        doc.says("NO_SUCH_FORM", () -> {
            Calls.with(1, 2, 3, 4).tells(NO_SUCH_FORM, "substitute", 1, 1, 0, 0, 1).tells(NO_SUCH_FORM, "substitute", 1, 101, 0, 0, 1)
                    .tells(NO_SUCH_FORM, "substitute", -1, 1, 1, 1, 1);
            Calls.full().tells(NO_SUCH_FORM, "substitute", 60, 1, 0, 0, 1);
        });
        doc.says("BAD_VALUE if an entry is out of range, or p s - q r is not 1 or -1", FormsTest::badSubstitutions);
        doc.says("OVERFLOW if a coefficient of the result is not from -300 to 300", FormsTest::substitutionsAtTheEdge);
        doc.says("FULL.", () -> Calls.full(1, 2, 3, 4).tells(FULL, "substitute", 0, 1, 0, 0, 1)
                .tells(OVERFLOW, "substitute", 0, 1, 100, 0, 1).tells(BAD_VALUE, "substitute", 0, 1, 1, 1, 1)
                .tells(BAD_VALUE, "substitute", 0, 101, 1, -1, 0).tells(NO_SUCH_FORM, "substitute", 60, 1, 0, 0, 1)
                .does(60, "clearForms").tells(NO_SUCH_FORM, "substitute", 0, 1, 0, 0, 1));
    }

    private static void entry(int place, int... arguments) {
        Edges.range(() -> Calls.with(0, 0, 0, 0), BAD_VALUE, -100, 100, place, "substitute", arguments);
        int[] atEdge = arguments.clone();
        for (int edge : new int[] {-100, 100}) {
            atEdge[place] = edge;
            Calls.with(0, 0, 0, 0).does(1, "substitute", atEdge).holdsForm(1, 0, 0, 0, 0);
        }
    }

    private static void badSubstitutions() {
        Calls x = Calls.with(0, 0, 0, 1);
        x.does(1, "substitute", 0, 1, 0, 0, 1).does(2, "substitute", 0, 1, 0, 0, -1);
        x.does(3, "substitute", 0, 0, 1, 1, 0).does(4, "substitute", 0, 0, 1, -1, 0);
        int[][] others = {{0, 0, 0, 0}, {1, 1, 1, 1}, {2, 0, 0, 1}, {-2, 0, 0, 1}, {1, 0, 0, 0}, {0, 2, 1, 0}, {0, -2, 1, 0},
            {1, 1, 1, -1}, {100, 99, 99, 99}, {100, 100, 100, 100}, {100, -100, 100, 100}, {3, 2, 2, 2}};
        for (int[] m : others) {
            x.tells(BAD_VALUE, "substitute", 0, m[0], m[1], m[2], m[3]);
        }
        // The determinant would wrap around to 1, or has the right value with an entry that is too large.
        x.tells(BAD_VALUE, "substitute", 0, 65536, 1, -1, 65536).tells(BAD_VALUE, "substitute", 0, 65537, 65536, 65536, 65535);
        x.tells(BAD_VALUE, "substitute", 0, 101, 100, 1, 1).tells(BAD_VALUE, "substitute", 0, 1, 0, 101, 1);
        // An entry is looked at before the size of the result.
        Calls.with(300, 300, 300, 300).tells(BAD_VALUE, "substitute", 0, 1, 101, 0, 1).tells(BAD_VALUE, "substitute", 0, 100, 100, 100, 100);
        Calls.with(0, 0, 0, 0).does(1, "substitute", 0, 100, 99, 1, 1).does(2, "substitute", 0, 100, -99, -99, 98)
                .does(3, "substitute", 0, 100, 99, 99, 98);
    }

    private static void substitutionsAtTheEdge() {
        // Each coefficient in turn is 300 and then 301; the others are small.
        int[][] sources = {{0, 3, 0, 0}, {-100, 100, 100, 0}, {0, 100, 100, -100}, {0, 0, 3, 0}};
        int[][] larger = {{1, 3, 0, 0}, {-100, 101, 100, 0}, {0, 100, 101, -100}, {0, 0, 3, 1}};
        int[][] entries = {{1, 0, 100, 1}, {1, 0, 1, 1}, {1, 1, 0, 1}, {1, 100, 0, 1}};
        int[][] results = {{300, 3, 0, 0}, {100, 300, 100, 0}, {0, 100, 300, 100}, {0, 0, 3, 300}};
        for (int k = 0; k < 4; k++) {
            for (int sign = -1; sign <= 1; sign += 2) {
                int[] f = times(sign, sources[k]);
                int[] g = times(sign, larger[k]);
                int[] m = entries[k];
                Calls x = Calls.with(f[0], f[1], f[2], f[3], g[0], g[1], g[2], g[3]);
                x.does(2, "substitute", 0, m[0], m[1], m[2], m[3]).holdsForm(2, times(sign, results[k]));
                x.tells(OVERFLOW, "substitute", 1, m[0], m[1], m[2], m[3]);
            }
        }
        // Results of the largest entries.
        Calls.with(300, 300, 300, 300).tells(OVERFLOW, "substitute", 0, 100, 99, 99, 98).tells(OVERFLOW, "substitute", 0, -100, 99, -99, 98);
        Calls.with(1, 0, 0, -2).tells(OVERFLOW, "substitute", 0, 0, 1, 1, 100);
    }

    private static int[] times(int factor, int[] form) {
        return new int[] {factor * form[0], factor * form[1], factor * form[2], factor * form[3]};
    }

    private static void isReducible(Sentences doc) {
        doc.section("Promise 9: isReducible");
        doc.says("Tells whether a form is reducible.", () -> {
            Calls.with(1, 0, 0, -8, 1, 0, 0, -2, 6, -5, -2, 1, 299, 0, 0, 1, 36, 0, -25, 0, 2, 0, 0, -250)
                    .tells(1, "isReducible", 0).tells(0, "isReducible", 1).tells(1, "isReducible", 2).tells(0, "isReducible", 3)
                    .tells(1, "isReducible", 4).tells(1, "isReducible", 5);
        });
        doc.says("`form`: number of a stored form", () -> Edges.form(NO_SUCH_FORM, 0, "isReducible", 0));
        doc.says("Returns 1 if it is reducible", FormsTest::reducibleForms);
        doc.says("0 if it is irreducible", FormsTest::irreducibleForms);
        doc.says("NO_SUCH_FORM.", () -> Calls.with(0, 0, 0, 0).tells(NO_SUCH_FORM, "isReducible", 1).tells(NO_SUCH_FORM, "isReducible", -1)
                .does(1, "clearForms").tells(NO_SUCH_FORM, "isReducible", 0));
    }

    private static void reducibleForms() {
        // The roots (1, 0) and (0, 1); then roots with the largest coordinates, in both signs.
        Calls.with(0, 1, 2, 3, 1, 2, 3, 0, 0, 0, 0, 1, 1, 0, 0, 0).tells(1, "isReducible", 0).tells(1, "isReducible", 1)
                .tells(1, "isReducible", 2).tells(1, "isReducible", 3);
        Calls.with(1, -300, 1, -300, 1, 300, 1, 300, 300, 1, 300, 1, 300, -1, 300, -1).tells(1, "isReducible", 0)
                .tells(1, "isReducible", 1).tells(1, "isReducible", 2).tells(1, "isReducible", 3);
        Calls.with(289, 0, 0, 289, 300, 300, 300, 300, 300, -300, 300, -300, 299, 299, -299, -299).tells(1, "isReducible", 0)
                .tells(1, "isReducible", 1).tells(1, "isReducible", 2).tells(1, "isReducible", 3);
        // (m x + n y) times an irreducible quadratic form: the only root is -n / m.
        for (int m = 1; m <= 17; m++) {
            for (int n = -17; n <= 17; n++) {
                Calls.with(m, m + n, m + n, n).tells(1, "isReducible", 0);
                Calls.with(17 * m, 17 * n, m, n).tells(1, "isReducible", 0);
                Calls.with(m, n, 17 * m, 17 * n).tells(1, "isReducible", 0);
            }
        }
        // Here -n / m is neither made of small divisors of a and d nor of a and d themselves.
        for (int m = 1; m <= 75; m += 2) {
            for (int n = -60; n <= 60; n++) {
                Calls.with(2 * m, m + 2 * n, 3 * m + n, 3 * n).tells(1, "isReducible", 0);
            }
        }
    }

    private static void irreducibleForms() {
        Calls.with(1, 1, -2, -1, 1, 1, 1, 299, 1, -300, 1, -299, 300, 1, 300, -1, 300, 300, 300, 299)
                .tells(0, "isReducible", 0).tells(0, "isReducible", 1).tells(0, "isReducible", 2).tells(0, "isReducible", 3)
                .tells(0, "isReducible", 4);
        // x^3 = n y^3 has a solution for cubes alone.
        for (int n = 1; n <= 300; n++) {
            boolean cube = n == 1 || n == 8 || n == 27 || n == 64 || n == 125 || n == 216;
            Calls.with(1, 0, 0, -n, n, 0, 0, 1).tells(cube ? 1 : 0, "isReducible", 0).tells(cube ? 1 : 0, "isReducible", 1);
        }
    }
}
