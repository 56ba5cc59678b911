/** The promises of the document one by one: ordinary inputs, edges and wrong inputs. */
public final class PromisesTest {
    private static final long NO_VALUE = Long.MIN_VALUE;
    private static final int MIN = Integer.MIN_VALUE;
    private static final int MAX = Integer.MAX_VALUE;
    private static int wrong = 0;

    public static void main(String[] args) {
        constants();
        examples();
        promise1NewObject();
        promise2AddForm();
        promise3ClearForms();
        promise4Coefficient();
        promise5Discriminant();
        promise6Hessian();
        promise7Value();
        promise8Substitute();
        promise9IsReducible();
        promise10Canonical();
        promise11AreEquivalent();
        promise12AutomorphismCount();
        promise13SetElement();
        promise14Element();
        promise15Multiply();
        promise16Trace();
        promise17Norm();
        promise18TraceDeterminant();
        promise19ElementIndex();
        promise20Splitting();
        promise21IsMaximalAt();
        promise22Overring();
        promise23MaximalOverring();
        promise24CountForms();
        promise25CountFields();
        promise26FieldDiscriminant();
        System.out.println(wrong == 0 ? "all promises hold" : wrong + " answers are not as due");
        if (wrong != 0) {
            System.exit(1);
        }
    }

    private static void due(String what, long got, long want) {
        if (got != want) {
            wrong++;
            System.out.println(what + " answered " + got + ", due is " + want);
        }
    }

    private static CubicForms with(int... coefficients) {
        CubicForms x = new CubicForms();
        for (int i = 0; i + 3 < coefficients.length; i += 4) {
            x.addForm(coefficients[i], coefficients[i + 1], coefficients[i + 2], coefficients[i + 3]);
        }
        return x;
    }

    /** A store that holds the form given and then 59 zero forms. */
    private static CubicForms fullAfter(int a, int b, int c, int d) {
        CubicForms x = with(a, b, c, d);
        for (int i = 0; i < 59; i++) {
            x.addForm(0, 0, 0, 0);
        }
        return x;
    }

    private static void dueForm(String what, CubicForms x, int form, int a, int b, int c, int d) {
        int[] want = {a, b, c, d};
        for (int k = 0; k < 4; k++) {
            due(what + ": coefficient(" + form + ", " + k + ")", x.coefficient(form, k), want[k]);
        }
    }

    private static void dueElement(String what, CubicForms x, int register, int u, int v, int t) {
        int[] want = {u, v, t};
        for (int k = 0; k < 3; k++) {
            due(what + ": element(" + register + ", " + k + ")", x.element(register, k), want[k]);
        }
    }

    private static void dueFormCount(String what, CubicForms x, int count) {
        due(what + ": the number of forms", x.clearForms(), count);
    }

    private static void constants() {
        due("NO_SUCH_FORM", CubicForms.NO_SUCH_FORM, -10001);
        due("NO_SUCH_REGISTER", CubicForms.NO_SUCH_REGISTER, -10002);
        due("BAD_VALUE", CubicForms.BAD_VALUE, -10003);
        due("FULL", CubicForms.FULL, -10004);
        due("OVERFLOW", CubicForms.OVERFLOW, -10005);
        due("NOT_POSITIVE", CubicForms.NOT_POSITIVE, -10006);
        due("REDUCIBLE", CubicForms.REDUCIBLE, -10007);
        due("NONE", CubicForms.NONE, -10008);
        due("NO_VALUE", CubicForms.NO_VALUE, NO_VALUE);
    }

    private static void examples() {
        CubicForms x = new CubicForms();
        due("example 1: addForm", x.addForm(1, 1, -2, -1), 0);
        due("example 1: discriminant", x.discriminant(0), 49);
        for (int k = 0; k < 3; k++) {
            due("example 1: hessian", x.hessian(0, k), 7);
        }
        due("example 1: isReducible", x.isReducible(0), 0);
        due("example 1: canonical", x.canonical(0), 1);
        dueForm("example 1", x, 1, -1, -2, 1, 1);
        due("example 1: automorphismCount", x.automorphismCount(0), 3);
        due("example 1: traceDeterminant", x.traceDeterminant(0), 49);
        due("example 1: splitting(0, 7)", x.splitting(0, 7), 13);
        due("example 1: splitting(0, 2)", x.splitting(0, 2), 3);
        due("example 1: isMaximalAt(0, 7)", x.isMaximalAt(0, 7), 1);

        x = new CubicForms();
        due("example 2: addForm", x.addForm(1, 0, -12, -8), 0);
        due("example 2: discriminant(0)", x.discriminant(0), 5184);
        due("example 2: isMaximalAt", x.isMaximalAt(0, 2), 0);
        due("example 2: overring(0, 2)", x.overring(0, 2), 1);
        due("example 2: coefficient(1, 0)", x.coefficient(1, 0), -2);
        due("example 2: coefficient(1, 3)", x.coefficient(1, 3), 2);
        due("example 2: discriminant(1)", x.discriminant(1), 1296);
        due("example 2: overring(1, 3)", x.overring(1, 3), -10008);
        due("example 2: maximalOverring", x.maximalOverring(0), 2);
        due("example 2: discriminant(2)", x.discriminant(2), 81);
        due("example 2: overring(0, 4)", x.overring(0, 4), -10003);
        due("example 2: canonical(9)", x.canonical(9), -10001);

        x = new CubicForms();
        due("example 3: addForm", x.addForm(1, 0, 0, -2), 0);
        due("example 3: discriminant", x.discriminant(0), -108);
        due("example 3: canonical", x.canonical(0), -10006);
        due("example 3: setElement", x.setElement(0, 0, 1, 0), 1);
        due("example 3: multiply", x.multiply(0, 0, 0, 1), 1);
        dueElement("example 3", x, 1, 0, 0, -1);
        due("example 3: multiply", x.multiply(0, 0, 1, 2), 1);
        due("example 3: element(2, 0)", x.element(2, 0), -2);
        due("example 3: norm", x.norm(0, 0), -2);
        due("example 3: trace", x.trace(0, 0), 0);
        due("example 3: elementIndex", x.elementIndex(0, 0), 1);
        due("example 3: setElement", x.setElement(3, 100, 100, 100), 1);
        due("example 3: multiply", x.multiply(0, 3, 3, 3), -10005);
        dueElement("example 3, after OVERFLOW", x, 3, 100, 100, 100);

        x = new CubicForms();
        due("example 4: countFields(100)", x.countFields(100), 2);
        due("example 4: countFields(1000)", x.countFields(1000), 27);
        due("example 4: fieldDiscriminant(0)", x.fieldDiscriminant(0), 49);
        due("example 4: fieldDiscriminant(1)", x.fieldDiscriminant(1), 81);
        due("example 4: fieldDiscriminant(2)", x.fieldDiscriminant(2), 148);
        due("example 4: fieldDiscriminant(99)", x.fieldDiscriminant(99), -10008);
        due("example 4: countForms(100)", x.countForms(100), 2);
        due("example 4: countForms(0)", x.countForms(0), -10003);
    }

    private static void promise1NewObject() {
        CubicForms x = new CubicForms();
        for (int r = 0; r < 6; r++) {
            dueElement("a new object", x, r, 0, 0, 0);
        }
        due("a new object: coefficient(0, 0)", x.coefficient(0, 0), -10001);
        dueFormCount("a new object", x, 0);
        x.addForm(1, 2, 3, 4);
        x.setElement(0, 1, 2, 3);
        CubicForms y = new CubicForms();
        dueFormCount("a second object", y, 0);
        dueElement("a second object", y, 0, 0, 0, 0);
    }

    private static void promise2AddForm() {
        CubicForms x = new CubicForms();
        due("addForm at the upper edge", x.addForm(300, 300, 300, 300), 0);
        due("addForm at the lower edge", x.addForm(-300, -300, -300, -300), 1);
        due("addForm of an equal form", x.addForm(300, 300, 300, 300), 2);
        dueForm("addForm", x, 1, -300, -300, -300, -300);
        int[] outside = {301, -301, MAX, MIN};
        for (int bad : outside) {
            due("addForm, a = " + bad, x.addForm(bad, 0, 0, 0), -10003);
            due("addForm, b = " + bad, x.addForm(0, bad, 0, 0), -10003);
            due("addForm, c = " + bad, x.addForm(0, 0, bad, 0), -10003);
            due("addForm, d = " + bad, x.addForm(0, 0, 0, bad), -10003);
        }
        for (int i = 3; i < 60; i++) {
            due("addForm number " + i, x.addForm(i, -i, 2 * i, 1), i);
        }
        due("addForm, 61st", x.addForm(1, 2, 3, 4), -10004);
        due("addForm, bad and full", x.addForm(301, 2, 3, 4), -10003);
        dueForm("the 60th form", x, 59, 59, -59, 118, 1);
        due("there is no 61st form", x.coefficient(60, 0), -10001);
        dueFormCount("addForm", x, 60);
    }

    private static void promise3ClearForms() {
        CubicForms x = with(1, 2, 3, 4, 5, 6, 7, 8);
        x.setElement(2, 7, 8, 9);
        due("clearForms", x.clearForms(), 2);
        due("clearForms again", x.clearForms(), 0);
        due("coefficient after clearForms", x.coefficient(0, 0), -10001);
        dueElement("the registers stay", x, 2, 7, 8, 9);
        due("addForm after clearForms", x.addForm(9, 9, 9, 9), 0);
        dueForm("addForm after clearForms", x, 0, 9, 9, 9, 9);
        x = fullAfter(1, 1, 1, 1);
        due("clearForms of a full store", x.clearForms(), 60);
        due("addForm after that", x.addForm(1, 0, 0, 0), 0);
    }

    private static void promise4Coefficient() {
        CubicForms x = with(1, -2, 3, -4);
        dueForm("coefficient", x, 0, 1, -2, 3, -4);
        for (int form : new int[] {-1, 1, 60, MIN, MAX}) {
            due("coefficient(" + form + ", 0)", x.coefficient(form, 0), -10001);
            due("coefficient(" + form + ", 9)", x.coefficient(form, 9), -10001);
        }
        for (int k : new int[] {-1, 4, MIN, MAX}) {
            due("coefficient(0, " + k + ")", x.coefficient(0, k), -10003);
        }
    }

    private static void promise5Discriminant() {
        CubicForms x = with(1, 1, -2, -1, 1, 0, 0, -2, 0, 0, 0, 0, 300, -300, -300, 300, 0, 300, 300, -300, 2, 3, -5, 4);
        due("discriminant(0)", x.discriminant(0), 49);
        due("discriminant(1)", x.discriminant(1), -108);
        due("discriminant(2)", x.discriminant(2), 0);
        due("discriminant(3)", x.discriminant(3), 0);
        due("discriminant(4)", x.discriminant(4), 40500000000L);
        due("discriminant(5)", x.discriminant(5), -3095);
        for (int form : new int[] {-1, 6, MIN, MAX}) {
            due("discriminant(" + form + ")", x.discriminant(form), NO_VALUE);
        }
    }

    private static void promise6Hessian() {
        CubicForms x = with(2, 3, -5, 4, 300, 0, -300, 300);
        due("hessian(0, 0)", x.hessian(0, 0), 39);
        due("hessian(0, 1)", x.hessian(0, 1), -87);
        due("hessian(0, 2)", x.hessian(0, 2), -11);
        due("hessian(1, 0)", x.hessian(1, 0), 270000);
        due("hessian(1, 1)", x.hessian(1, 1), -810000);
        due("hessian(1, 2)", x.hessian(1, 2), 90000);
        for (int k : new int[] {-1, 3, MIN, MAX}) {
            due("hessian(0, " + k + ")", x.hessian(0, k), NO_VALUE);
        }
        for (int form : new int[] {-1, 2, MIN, MAX}) {
            due("hessian(" + form + ", 0)", x.hessian(form, 0), NO_VALUE);
        }
    }

    private static void promise7Value() {
        CubicForms x = with(2, 3, -5, 4, 300, 300, 300, 300);
        due("value(0, 1, 0)", x.value(0, 1, 0), 2);
        due("value(0, 0, 1)", x.value(0, 0, 1), 4);
        due("value(0, 2, -3)", x.value(0, 2, -3), 16 - 36 - 90 - 108);
        due("value(1, 1000, 1000)", x.value(1, 1000, 1000), 1200000000000L);
        due("value(1, -1000, -1000)", x.value(1, -1000, -1000), -1200000000000L);
        for (int bad : new int[] {1001, -1001, MIN, MAX}) {
            due("value(0, " + bad + ", 0)", x.value(0, bad, 0), NO_VALUE);
            due("value(0, 0, " + bad + ")", x.value(0, 0, bad), NO_VALUE);
        }
        due("value(2, 0, 0)", x.value(2, 0, 0), NO_VALUE);
        due("value(-1, 0, 0)", x.value(-1, 0, 0), NO_VALUE);
    }

    private static void promise8Substitute() {
        CubicForms x = with(1, 2, 3, 4);
        due("substitute, identity", x.substitute(0, 1, 0, 0, 1), 1);
        dueForm("substitute, identity", x, 1, 1, 2, 3, 4);
        due("substitute, swap", x.substitute(0, 0, 1, 1, 0), 2);
        dueForm("substitute, swap", x, 2, 4, 3, 2, 1);
        due("substitute, shift of x", x.substitute(0, 1, 1, 0, 1), 3);
        dueForm("substitute, shift of x", x, 3, 1, 5, 10, 10);
        due("substitute, shift of y", x.substitute(0, 1, 0, 1, 1), 4);
        dueForm("substitute, shift of y", x, 4, 10, 20, 15, 4);
        due("substitute, mixed", x.substitute(0, 1, -1, 2, -1), 5);
        dueForm("substitute, mixed", x, 5, 49, -85, 50, -10);
        due("substitute at the edge of entries", x.substitute(0, 0, 1, 1, 100), -10005);
        x.addForm(0, 0, 3, 0);
        due("substitute, 300 exactly", x.substitute(6, 1, 100, 0, 1), 7);
        dueForm("substitute, 300 exactly", x, 7, 0, 0, 3, 300);
        due("substitute, -300 exactly", x.substitute(6, 1, -100, 0, 1), 8);
        x.addForm(0, 0, 3, 1);
        due("substitute, 301", x.substitute(9, 1, 100, 0, 1), -10005);
        for (int bad : new int[] {101, -101, MIN, MAX}) {
            due("substitute, p = " + bad, x.substitute(0, bad, 1, -1, 0), -10003);
            due("substitute, q = " + bad, x.substitute(0, 1, bad, 0, 1), -10003);
            due("substitute, r = " + bad, x.substitute(0, 1, 0, bad, 1), -10003);
            due("substitute, s = " + bad, x.substitute(0, 0, 1, 1, bad), -10003);
        }
        due("substitute, determinant 0", x.substitute(0, 1, 1, 1, 1), -10003);
        due("substitute, determinant 2", x.substitute(0, 2, 0, 0, 1), -10003);
        due("substitute, determinant -2", x.substitute(0, -2, 0, 0, 1), -10003);
        due("substitute, no form", x.substitute(10, 1, 1, 1, 1), -10001);
        due("substitute, no form", x.substitute(-1, 1, 0, 0, 1), -10001);
        dueFormCount("substitute", x, 10);
        x = fullAfter(1, 2, 3, 4);
        due("substitute, full", x.substitute(0, 1, 0, 0, 1), -10004);
        due("substitute, overflow before full", x.substitute(0, 1, 100, 0, 1), -10005);
        due("substitute, bad before full", x.substitute(0, 1, 1, 1, 1), -10003);
    }

    private static void promise9IsReducible() {
        CubicForms x = with(0, 1, 2, 3, 1, 2, 3, 0, 0, 0, 0, 0, 1, 0, 0, -8, 1, 0, 0, -2,
                6, -5, -2, 1, 289, 0, 0, 289, 2, 0, 0, -250, 299, 0, 0, 1, 1, 1, 1, 299, 36, 0, -25, 0);
        long[] want = {1, 1, 1, 1, 0, 1, 1, 1, 0, 0, 1};
        for (int i = 0; i < want.length; i++) {
            due("isReducible(" + i + ")", x.isReducible(i), want[i]);
        }
        // (m x + n y) times an irreducible quadratic form: the only root is -n / m.
        for (int m = 1; m <= 17; m++) {
            for (int n = -17; n <= 17; n++) {
                CubicForms y = with(m, m + n, m + n, n);
                due("isReducible of a product", y.isReducible(0), 1);
                y = with(17 * m, 17 * n, m, n);
                due("isReducible of a product", y.isReducible(0), 1);
            }
        }
        for (int form : new int[] {-1, 11, MIN, MAX}) {
            due("isReducible(" + form + ")", x.isReducible(form), -10001);
        }
    }

    private static void promise10Canonical() {
        CubicForms x = with(1, 1, -2, -1, 1, 0, -3, 1, 1, -1, -4, 1, 0, 1, -1, 0, 1, 0, 0, -2, 1, 2, 1, 0);
        due("canonical(0)", x.canonical(0), 6);
        dueForm("canonical(0)", x, 6, -1, -2, 1, 1);
        due("canonical(6)", x.canonical(6), 7);
        dueForm("canonical(6)", x, 7, -1, -2, 1, 1);
        due("canonical(1)", x.canonical(1), 8);
        dueForm("canonical(1)", x, 8, -1, -3, 0, 1);
        due("canonical(3)", x.canonical(3), 9);
        dueForm("canonical(3)", x, 9, 0, -1, -1, 0);
        due("canonical, negative discriminant", x.canonical(4), -10006);
        due("canonical, discriminant 0", x.canonical(5), -10006);
        due("canonical, no form", x.canonical(10), -10001);
        due("canonical, no form", x.canonical(-1), -10001);
        dueFormCount("canonical", x, 10);
        // Equivalent to y (x^2 + x y - 22349 y^2).
        x = with(0, 1, 299, 1);
        due("canonical, overflow", x.canonical(0), -10005);
        dueFormCount("canonical, overflow", x, 1);
        x = fullAfter(1, 1, -2, -1);
        due("canonical, full", x.canonical(0), -10004);
        due("canonical, not positive before full", x.canonical(1), -10006);
        x = fullAfter(0, 1, 299, 1);
        due("canonical, overflow before full", x.canonical(0), -10005);
    }

    private static void promise11AreEquivalent() {
        CubicForms x = with(1, 1, -2, -1, 1, 0, -3, 1, 1, 0, 0, -2, 0, 0, 0, 0, -1, -1, 2, 1, 1, -2, -1, 1);
        x.substitute(0, 2, 1, 1, 1);
        due("areEquivalent to itself", x.areEquivalent(0, 0), 1);
        due("areEquivalent to a substituted form", x.areEquivalent(0, 6), 1);
        due("areEquivalent to the negative", x.areEquivalent(0, 4), 1);
        due("areEquivalent to f(-x, y)", x.areEquivalent(5, 0), 1);
        due("areEquivalent, other discriminants", x.areEquivalent(0, 1), 0);
        due("areEquivalent, first not positive", x.areEquivalent(2, 0), -10006);
        due("areEquivalent, second of discriminant 0", x.areEquivalent(0, 3), -10006);
        due("areEquivalent, first of discriminant 0", x.areEquivalent(3, 0), -10006);
        due("areEquivalent, second not positive", x.areEquivalent(0, 2), -10006);
        for (int form : new int[] {-1, 7, MIN, MAX}) {
            due("areEquivalent(" + form + ", 2)", x.areEquivalent(form, 2), -10001);
            due("areEquivalent(2, " + form + ")", x.areEquivalent(2, form), -10001);
        }
        dueFormCount("areEquivalent", x, 7);
        // Canonical forms that are too large for the store.
        x = with(0, 1, 299, 1, 0, -1, 299, -1, 0, 1, 297, -297, 0, 1, 297, -298);
        due("areEquivalent, large canonical forms", x.areEquivalent(0, 1), 1);
        due("areEquivalent, large canonical forms", x.areEquivalent(0, 2), 1);
        due("areEquivalent, large canonical forms", x.areEquivalent(0, 3), 0);
        due("discriminant of the first", x.discriminant(0), 299 * 299 - 4);
        // All three have the discriminant 16.
        x = with(0, 1, 4, 0, 0, 2, 2, 0, 0, 4, 1, 0);
        due("equal discriminants, not equivalent", x.areEquivalent(0, 1), 0);
        due("equal discriminants, equivalent", x.areEquivalent(0, 2), 1);
    }

    private static void promise12AutomorphismCount() {
        CubicForms x = with(1, 1, -2, -1, 1, -1, -4, 1, 0, 1, -1, 0, 0, 1, 1, -1, 1, 0, 0, -2, 0, 0, 0, 0,
                1, 0, -2, 0);
        x.substitute(2, 3, 2, 1, 1);
        long[] want = {3, 1, 6, 2, -10006, -10006, 2, 6};
        for (int i = 0; i < want.length; i++) {
            due("automorphismCount(" + i + ")", x.automorphismCount(i), want[i]);
        }
        for (int form : new int[] {-1, 8, MIN, MAX}) {
            due("automorphismCount(" + form + ")", x.automorphismCount(form), -10001);
        }
        dueFormCount("automorphismCount", x, 8);
    }

    private static void promise13SetElement() {
        CubicForms x = new CubicForms();
        due("setElement to what is there", x.setElement(0, 0, 0, 0), 0);
        due("setElement", x.setElement(0, 100, -100, 100), 1);
        due("setElement again", x.setElement(0, 100, -100, 100), 0);
        due("setElement, u", x.setElement(0, 99, -100, 100), 1);
        due("setElement, v", x.setElement(0, 99, -99, 100), 1);
        due("setElement, t", x.setElement(0, 99, -99, 99), 1);
        due("setElement, last register", x.setElement(5, 1, 2, 3), 1);
        for (int bad : new int[] {101, -101, MIN, MAX}) {
            due("setElement, u = " + bad, x.setElement(0, bad, 0, 0), -10003);
            due("setElement, v = " + bad, x.setElement(0, 0, bad, 0), -10003);
            due("setElement, t = " + bad, x.setElement(0, 0, 0, bad), -10003);
        }
        for (int register : new int[] {-1, 6, MIN, MAX}) {
            due("setElement(" + register + ", ..)", x.setElement(register, 0, 0, 0), -10002);
            due("setElement(" + register + ", ..), bad too", x.setElement(register, 101, 0, 0), -10002);
        }
        dueElement("setElement", x, 0, 99, -99, 99);
        dueElement("setElement", x, 5, 1, 2, 3);
        dueElement("setElement", x, 4, 0, 0, 0);
    }

    private static void promise14Element() {
        CubicForms x = new CubicForms();
        x.setElement(3, -1, 2, -3);
        dueElement("element", x, 3, -1, 2, -3);
        for (int k : new int[] {-1, 3, MIN, MAX}) {
            due("element(3, " + k + ")", x.element(3, k), -10003);
        }
        for (int register : new int[] {-1, 6, MIN, MAX}) {
            due("element(" + register + ", 0)", x.element(register, 0), -10002);
            due("element(" + register + ", 3)", x.element(register, 3), -10002);
        }
    }

    private static void promise15Multiply() {
        CubicForms x = with(2, 3, -5, 4);
        x.setElement(0, 0, 1, 0);
        x.setElement(1, 0, 0, 1);
        due("multiply, w w", x.multiply(0, 0, 0, 2), 1);
        dueElement("w w", x, 2, 10, 3, -2);
        due("multiply, z z", x.multiply(0, 1, 1, 2), 1);
        dueElement("z z", x, 2, -12, 4, 5);
        due("multiply, w z", x.multiply(0, 0, 1, 2), 1);
        dueElement("w z", x, 2, -8, 0, 0);
        due("multiply, z w", x.multiply(0, 1, 0, 3), 1);
        dueElement("z w", x, 3, -8, 0, 0);
        x.setElement(4, 1, 2, -1);
        x.setElement(5, 0, 1, 3);
        due("multiply onto the first factor", x.multiply(0, 4, 5, 4), 1);
        dueElement("product", x, 4, 16, -5, -16);
        dueElement("the other factor", x, 5, 0, 1, 3);
        x.setElement(4, 1, 2, -1);
        due("multiply onto the second factor", x.multiply(0, 4, 5, 5), 1);
        dueElement("product", x, 5, 16, -5, -16);
        due("multiply, overflow", x.multiply(0, 5, 5, 5), -10005);
        dueElement("after overflow", x, 5, 16, -5, -16);
        x.setElement(0, 10, 0, 0);
        x.setElement(1, 10, 0, 0);
        due("multiply, 100 exactly", x.multiply(0, 0, 1, 2), 1);
        dueElement("100 exactly", x, 2, 100, 0, 0);
        x.addForm(101, 0, 0, 0);
        x.addForm(0, 101, 0, 0);
        x.addForm(1, 0, 101, 0);
        x.setElement(0, 0, 1, 0);
        due("multiply, overflow of the z part", x.multiply(1, 0, 0, 2), -10005);
        due("multiply, overflow of the w part", x.multiply(2, 0, 0, 2), -10005);
        due("multiply, overflow of the 1 part", x.multiply(3, 0, 0, 2), -10005);
        for (int bad : new int[] {-1, 6, MIN, MAX}) {
            due("multiply, first = " + bad, x.multiply(0, bad, 0, 0), -10002);
            due("multiply, second = " + bad, x.multiply(0, 0, bad, 0), -10002);
            due("multiply, target = " + bad, x.multiply(0, 0, 0, bad), -10002);
        }
        due("multiply, register before overflow", x.multiply(0, 5, 5, 6), -10002);
        due("multiply, no form", x.multiply(4, 0, 0, 0), -10001);
        due("multiply, no form nor register", x.multiply(-1, 6, 6, 6), -10001);
    }

    private static void promise16Trace() {
        CubicForms x = with(2, 3, -5, 4, 300, 300, -300, 300);
        x.setElement(0, 1, 0, 0);
        x.setElement(1, 0, 1, 0);
        x.setElement(2, 0, 0, 1);
        x.setElement(3, 16, -5, -16);
        x.setElement(4, 100, 100, 100);
        due("trace of 1", x.trace(0, 0), 3);
        due("trace of w", x.trace(0, 1), 3);
        due("trace of z", x.trace(0, 2), 5);
        due("trace", x.trace(0, 3), -47);
        due("trace, large", x.trace(1, 4), 60300);
        due("trace, no form", x.trace(2, 0), NO_VALUE);
        due("trace, no form", x.trace(-1, 0), NO_VALUE);
        due("trace, no register", x.trace(0, 6), NO_VALUE);
        due("trace, no register", x.trace(0, -1), NO_VALUE);
    }

    private static void promise17Norm() {
        CubicForms x = with(2, 3, -5, 4, 300, 300, 300, 300);
        x.setElement(0, -3, 0, 0);
        x.setElement(1, 0, 1, 0);
        x.setElement(2, 0, 0, 1);
        x.setElement(3, 16, -5, -16);
        x.setElement(4, 100, 100, 100);
        due("norm of -3", x.norm(0, 0), -27);
        due("norm of w", x.norm(0, 1), 16);
        due("norm of z", x.norm(0, 2), -32);
        due("norm", x.norm(0, 3), 56240);
        due("norm, large", x.norm(1, 4), 360001000000L);
        due("norm, no form", x.norm(2, 0), NO_VALUE);
        due("norm, no form", x.norm(-1, 0), NO_VALUE);
        due("norm, no register", x.norm(0, 6), NO_VALUE);
        due("norm, no register", x.norm(0, -1), NO_VALUE);
    }

    private static void promise18TraceDeterminant() {
        CubicForms x = with(2, 3, -5, 4, 1, 1, -2, -1, 0, 0, 0, 0, 300, -299, -298, 297, 1, 0, 0, -2);
        due("traceDeterminant(0)", x.traceDeterminant(0), -3095);
        due("traceDeterminant(1)", x.traceDeterminant(1), 49);
        due("traceDeterminant(2)", x.traceDeterminant(2), 0);
        due("traceDeterminant(3)", x.traceDeterminant(3), x.discriminant(3));
        due("traceDeterminant(4)", x.traceDeterminant(4), -108);
        due("traceDeterminant(5)", x.traceDeterminant(5), NO_VALUE);
        due("traceDeterminant(-1)", x.traceDeterminant(-1), NO_VALUE);
    }

    private static void promise19ElementIndex() {
        CubicForms x = with(2, 3, -5, 4, 300, 300, 300, 300);
        x.setElement(0, 7, 0, 0);
        x.setElement(1, 50, 1, 0);
        x.setElement(2, -50, 0, 1);
        x.setElement(3, 1, 2, -1);
        x.setElement(4, 100, 100, 100);
        due("elementIndex of a number", x.elementIndex(0, 0), 0);
        due("elementIndex of w + 50", x.elementIndex(0, 1), 2);
        due("elementIndex of z - 50", x.elementIndex(0, 2), 4);
        due("elementIndex", x.elementIndex(0, 3), 10);
        due("elementIndex, large", x.elementIndex(1, 4), 1200000000L);
        due("elementIndex, no form", x.elementIndex(2, 0), NO_VALUE);
        due("elementIndex, no form", x.elementIndex(-1, 0), NO_VALUE);
        due("elementIndex, no register", x.elementIndex(0, 6), NO_VALUE);
        due("elementIndex, no register", x.elementIndex(0, -1), NO_VALUE);
    }

    private static final int[] NO_PRIMES = {MIN, -997, -2, -1, 0, 1, 4, 9, 961, 989, 996, 998, 999, 1009, MAX};

    private static void promise20Splitting() {
        CubicForms x = with(1, 1, -2, -1, 6, 6, -12, -6, 0, 1, -1, 0, 0, 0, 1, 0, 0, 0, 0, 1, 1, 0, 0, -2, 0, 0, 0, 0, 1, 0, 0, 0);
        due("no root", x.splitting(0, 2), 3);
        due("three roots", x.splitting(0, 13), 111);
        due("a triple root", x.splitting(0, 7), 13);
        due("all coefficients divisible", x.splitting(1, 3), 0);
        due("all coefficients divisible", x.splitting(1, 2), 0);
        due("not divisible", x.splitting(1, 5), 3);
        due("all three points mod 2", x.splitting(2, 2), 111);
        due("0, 1 and infinity mod 997", x.splitting(2, 997), 111);
        due("a double root at (1, 0)", x.splitting(3, 5), 121);
        due("a triple root at (1, 0)", x.splitting(4, 5), 13);
        due("a triple root at (0, 1)", x.splitting(7, 997), 13);
        due("one root", x.splitting(5, 5), 21);
        due("one root", x.splitting(5, 11), 21);
        due("no root", x.splitting(5, 7), 3);
        due("three roots", x.splitting(5, 31), 111);
        due("a triple root mod 3", x.splitting(5, 3), 13);
        due("the zero form", x.splitting(6, 997), 0);
        for (int p : NO_PRIMES) {
            due("splitting(0, " + p + ")", x.splitting(0, p), -10003);
            due("splitting(8, " + p + ")", x.splitting(8, p), -10001);
        }
        due("splitting(-1, 2)", x.splitting(-1, 2), -10001);
        int primes = 0;
        for (int p = 0; p <= 400; p++) {
            primes += x.splitting(6, p) == 0 ? 1 : 0;
        }
        due("the primes to 400", primes, 78);
        x = with(0, 0, 0, 0);
        for (int p = 401, i = 0; i < 500; p++, i++) {
            primes += x.splitting(0, p) == 0 ? 1 : 0;
        }
        x = with(0, 0, 0, 0);
        for (int p = 901; p < 1300; p++) {
            primes += x.splitting(0, p) == 0 ? 1 : 0;
        }
        due("the primes to 997", primes, 168);
    }

    private static void promise21IsMaximalAt() {
        CubicForms x = with(8, 4, -4, -1, 6, 6, -12, -6, 1, 0, -12, -8, 0, 0, 0, 0, 1, 1, -2, -1, 0, 0, 1, 1, 1, 2, 4, 8);
        due("4 divides a and 2 divides b", x.isMaximalAt(0, 2), 0);
        due("49 divides the discriminant, and yet", x.isMaximalAt(0, 7), 1);
        due("all coefficients divisible", x.isMaximalAt(1, 3), 0);
        due("the point (0, 1)", x.isMaximalAt(2, 2), 0);
        due("3 is wild and maximal", x.isMaximalAt(2, 3), 1);
        due("the zero form", x.isMaximalAt(3, 997), 0);
        due("a maximal ring", x.isMaximalAt(4, 2), 1);
        due("a form of discriminant 0", x.isMaximalAt(5, 991), 0);
        for (int p : NO_PRIMES) {
            due("isMaximalAt(0, " + p + ")", x.isMaximalAt(0, p), -10003);
            due("isMaximalAt(7, " + p + ")", x.isMaximalAt(7, p), -10001);
        }
        due("isMaximalAt(-1, 2)", x.isMaximalAt(-1, 2), -10001);
        dueFormCount("isMaximalAt", x, 7);
    }

    private static void promise22Overring() {
        CubicForms x = with(8, 4, -4, -1, 6, 6, -12, -6, 0, 0, 0, 0, 1, 1, -2, -1, 0, 0, 1, 1, 4, 2, 2, 4, -4, -2, 1, 3);
        due("overring at (1, 0)", x.overring(0, 2), 7);
        dueForm("overring at (1, 0)", x, 7, 2, 2, -4, -2);
        due("overring of a multiple", x.overring(1, 3), 8);
        dueForm("overring of a multiple", x, 8, 2, 2, -4, -2);
        due("overring of the zero form", x.overring(2, 5), 9);
        dueForm("overring of the zero form", x, 9, 0, 0, 0, 0);
        due("overring of a maximal ring", x.overring(3, 7), -10008);
        due("overring, discriminant 0", x.overring(4, 5), 10);
        dueForm("overring, discriminant 0", x, 10, 0, 0, 1, 5);
        due("overring, overflow", x.overring(4, 307), -10005);
        due("a multiple of 2 is not looked at in points", x.overring(5, 2), 11);
        dueForm("a multiple of 2", x, 11, 2, 1, 1, 2);
        due("the first point decides", x.overring(6, 2), 12);
        dueForm("the first point", x, 12, -1, -1, 1, 6);
        // f(x, x + y) = (4, 6, 5, 1)
        x.addForm(2, -1, 2, 1);
        due("overring at (1, 1)", x.overring(13, 2), 14);
        dueForm("overring at (1, 1)", x, 14, 1, 3, 5, 2);
        // f(x, x + y) = (-4, -2, 1, 1)
        x.addForm(-2, -1, -2, 1);
        due("overring at (1, 1), negative", x.overring(15, 2), 16);
        dueForm("overring at (1, 1), negative", x, 16, -1, -1, 1, 2);
        for (int p : NO_PRIMES) {
            due("overring(0, " + p + ")", x.overring(0, p), -10003);
            due("overring(17, " + p + ")", x.overring(17, p), -10001);
        }
        due("overring(-1, 2)", x.overring(-1, 2), -10001);
        dueFormCount("overring", x, 17);
        x = fullAfter(0, 0, 1, 1);
        due("overring, full", x.overring(0, 2), -10004);
        due("overring, overflow before full", x.overring(0, 307), -10005);
        x = fullAfter(1, 1, -2, -1);
        due("overring, none before full", x.overring(0, 7), -10008);
    }

    private static void promise23MaximalOverring() {
        CubicForms x = with(8, 4, -4, -1, 6, 6, -12, -6, 1, 0, 0, -2, 0, 1, 1, -1, 1, 1, -2, -1, 0, 0, 0, 0, 0, 0, 0, 1);
        due("maximalOverring(0)", x.maximalOverring(0), 7);
        dueForm("maximalOverring(0)", x, 7, -1, -2, 1, 1);
        due("maximalOverring(1)", x.maximalOverring(1), 8);
        dueForm("maximalOverring(1)", x, 8, -1, -2, 1, 1);
        due("maximalOverring, negative", x.maximalOverring(2), -10006);
        due("maximalOverring, reducible", x.maximalOverring(3), -10007);
        due("maximalOverring of a maximal ring", x.maximalOverring(4), 9);
        dueForm("maximalOverring of a maximal ring", x, 9, -1, -2, 1, 1);
        due("maximalOverring, zero before reducible", x.maximalOverring(5), -10006);
        due("maximalOverring, zero before reducible", x.maximalOverring(6), -10006);
        due("maximalOverring, no form", x.maximalOverring(10), -10001);
        due("maximalOverring, no form", x.maximalOverring(-1), -10001);
        dueFormCount("maximalOverring", x, 10);
        x = with(149, 149, -298, -149);
        due("maximalOverring at 149", x.maximalOverring(0), 1);
        dueForm("maximalOverring at 149", x, 1, -1, -2, 1, 1);
        x = with(2, 56, -144, -59, 5, 46, -128, -86);
        due("maximalOverring at 997", x.maximalOverring(0), 2);
        dueForm("maximalOverring at 997", x, 2, -1, -1, 3, 1);
        // Index 1009 in a ring of discriminant 148; but 1009 is not among the primes of the document.
        due("discriminant 148 * 1009^2", x.discriminant(1), 148L * 1009 * 1009);
        due("maximalOverring beyond the primes", x.maximalOverring(1), 3);
        dueForm("maximalOverring beyond the primes", x, 3, -5, -46, 128, 86);
        x = fullAfter(1, 1, -2, -1);
        due("maximalOverring, full", x.maximalOverring(0), -10004);
        x = fullAfter(0, 1, 1, -1);
        due("maximalOverring, reducible before full", x.maximalOverring(0), -10007);
        x = fullAfter(1, 250, -300, -263);
        due("maximalOverring, overflow before full", x.maximalOverring(0), -10005);
        x = with(1, 250, -300, -263, 1, -300, 290, 240);
        due("maximalOverring, overflow", x.maximalOverring(0), -10005);
        due("a canonical form that is too large", x.canonical(1), -10005);
        due("its maximal overring is not", x.maximalOverring(1), 2);
        dueForm("its maximal overring", x, 2, -60, -145, 300, -2);
        due("its maximal overring: discriminant", x.discriminant(2), 33014048800L / 4);
    }

    private static final int[] FIELDS = {49, 81, 148, 169, 229, 257, 316, 321, 361, 404, 469, 473, 564, 568,
        621, 697, 733, 756, 761, 785, 788, 837, 892, 940, 961, 985, 993};

    private static void promise24CountForms() {
        CubicForms x = with(1, 2, 3, 4);
        due("countForms(1)", x.countForms(1), 0);
        due("countForms(48)", x.countForms(48), 0);
        due("countForms(49)", x.countForms(49), 1);
        due("countForms(50)", x.countForms(50), 1);
        due("countForms(999)", x.countForms(999), 31);
        due("countForms(1000)", x.countForms(1000), 31);
        due("countForms(49) again", x.countForms(49), 1);
        for (int bad : new int[] {0, -1, 1001, MIN, MAX}) {
            due("countForms(" + bad + ")", x.countForms(bad), -10003);
        }
        dueForm("countForms keeps the forms", x, 0, 1, 2, 3, 4);
        dueFormCount("countForms", x, 1);
        due("countForms first of all, bad", new CubicForms().countForms(1001), -10003);
        // The order 784 = 16 * 49 is tabulated and is no field.
        due("a form that is no field", x.countForms(784) - x.countForms(783), 1);
    }

    private static void promise25CountFields() {
        CubicForms x = new CubicForms();
        int before = 0;
        for (int limit = 1; limit <= 500; limit++) {
            before += before < FIELDS.length && FIELDS[before] == limit ? 1 : 0;
            due("countFields(" + limit + ")", x.countFields(limit), before);
        }
        x = new CubicForms();
        for (int limit = 501; limit <= 1000; limit++) {
            before += before < FIELDS.length && FIELDS[before] == limit ? 1 : 0;
            due("countFields(" + limit + ")", x.countFields(limit), before);
        }
        x = new CubicForms();
        for (int bad : new int[] {0, -1, 1001, MIN, MAX}) {
            due("countFields(" + bad + ")", x.countFields(bad), -10003);
        }
    }

    private static void promise26FieldDiscriminant() {
        CubicForms x = new CubicForms();
        for (int k = 0; k < FIELDS.length; k++) {
            due("fieldDiscriminant(" + k + ")", x.fieldDiscriminant(k), FIELDS[k]);
        }
        due("fieldDiscriminant(27)", x.fieldDiscriminant(27), -10008);
        due("fieldDiscriminant(64)", x.fieldDiscriminant(64), -10008);
        due("fieldDiscriminant(MAX)", x.fieldDiscriminant(MAX), -10008);
        due("fieldDiscriminant(-1)", x.fieldDiscriminant(-1), -10003);
        due("fieldDiscriminant(MIN)", x.fieldDiscriminant(MIN), -10003);
        due("fieldDiscriminant first of all", new CubicForms().fieldDiscriminant(26), 993);
    }
}
