/** Promises 24 to 26, sentence by sentence: the tabulated forms and the fields. */
public final class FieldsTest implements Codes {
    /** The tabulated forms to 1000 in the order of their discriminants. */
    private static final int[][] TABULATED = {{-1, -2, 1, 1}, {-1, -3, 0, 1}, {-1, -1, 3, 1}, {-1, -4, -1, 1}, {-1, 0, 4, -1},
        {-1, -2, 3, 1}, {-1, -2, 3, 2}, {-1, -1, 4, 1}, {-1, -5, -2, 1}, {-1, -1, 5, -1}, {-1, -2, 4, 1}, {-1, 0, 5, -1},
        {-1, -2, 4, 2}, {-1, -4, 1, 2}, {-1, -1, 5, 1}, {-1, -3, 3, 2}, {-1, -3, 4, 1}, {-1, -6, -3, 1}, {-1, -2, 6, -1},
        {-1, -3, 3, 3}, {-1, -1, 6, -1}, {-2, -4, 2, 2}, {-1, -2, 5, 1}, {-1, -4, 2, 2}, {-1, 0, 6, -1}, {-1, -5, 0, 2},
        {-1, -2, 5, 2}, {-1, -3, 4, 2}, {-2, -5, 1, 2}, {-1, -1, 6, 1}, {-1, -2, 5, 3}};
    private static final int[] FORMS = {49, 81, 148, 169, 229, 257, 316, 321, 361, 404, 469, 473, 564, 568, 592, 621, 697, 729, 733,
        756, 761, 784, 785, 788, 837, 892, 916, 940, 961, 985, 993};
    private static final int[] FIELDS = {49, 81, 148, 169, 229, 257, 316, 321, 361, 404, 469, 473, 564, 568, 621, 697, 733, 756, 761,
        785, 788, 837, 892, 940, 961, 985, 993};

    public static void main(String[] args) {
        Sentences doc = new Sentences();
        countForms(doc);
        countFields(doc);
        fieldDiscriminant(doc);
        doc.end();
    }

    private static int countTo(int[] discriminants, int limit) {
        int count = 0;
        for (int discriminant : discriminants) {
            count += discriminant <= limit ? 1 : 0;
        }
        return count;
    }

    /** Each limit there is, two hundred of them to an object. */
    private static void eachLimit(String name, int[] discriminants) {
        Calls x = new Calls();
        for (int limit = 1; limit <= 1000; limit++) {
            x = limit % 200 == 0 ? new Calls() : x;
            x.does(countTo(discriminants, limit), name, limit);
        }
    }

    private static void limitsAreRefused(String name) {
        Calls x = Calls.with(1, 2, 3, 4).does(1, "setElement", 0, 1, 2, 3);
        for (int limit : new int[] {0, -1, 1001, -1000, Integer.MIN_VALUE, Integer.MAX_VALUE}) {
            x.tells(BAD_VALUE, name, limit);
            new Calls().tells(BAD_VALUE, name, limit).tells(0, name, 48).tells(1, name, 49);
        }
    }

    private static void countForms(Sentences doc) {
        doc.section("Promise 24: countForms");
        doc.says("---- fields of small discriminant: the tabulated forms are the canonical forms with coefficients from -9 to 9, a positive"
                + " discriminant, and irreducible", () -> {
            for (int i = 0; i < TABULATED.length; i++) {
                Calls x = Calls.with(TABULATED[i]).tells(FORMS[i], "discriminant", 0).tells(0, "isReducible", 0);
                x.does(1, "canonical", 0).holdsForm(1, TABULATED[i]);
            }
        });
        doc.says("Counts the tabulated forms: forms with all coefficients from -9 to 9 that are irreducible, have a positive discriminant"
                + " of at most limit, and are equal to their canonical form.", () -> eachLimit("countForms", FORMS));
        doc.says("`limit`: from 1 to 1000", () -> {
            Edges.range(Calls::new, BAD_VALUE, 1, 1000, 0, "countForms", 1);
            new Calls().tells(0, "countForms", 1).tells(31, "countForms", 1000);
        });
        doc.says("Returns their number", () -> {
            // At most the limit: 49 counts at 49. Stored forms are no matter, and stay.
            new Calls().tells(0, "countForms", 48).tells(1, "countForms", 49).tells(1, "countForms", 50).tells(1, "countForms", 80)
                    .tells(2, "countForms", 81).tells(30, "countForms", 992).tells(31, "countForms", 993).tells(31, "countForms", 999);
            Calls.full(1, 1, -2, -1).tells(31, "countForms", 1000).tells(1, "countForms", 49).tells(0, "countForms", 1);
            // 784 = 16 * 49 belongs to a form whose ring is not maximal.
            new Calls().tells(21, "countForms", 783).tells(22, "countForms", 784);
        });
        doc.says("BAD_VALUE.", () -> limitsAreRefused("countForms"));
    }

    private static void countFields(Sentences doc) {
        doc.section("Promise 25: countFields");
        doc.says("Counts the tabulated forms (see countForms) whose rings are maximal at every prime from 2 to 997.", () -> {
            eachLimit("countFields", FIELDS);
            for (int i = 0; i < TABULATED.length; i++) {
                int field = countTo(FIELDS, FORMS[i]) - countTo(FIELDS, FORMS[i] - 1);
                Calls x = Calls.with(TABULATED[i]);
                int smallest = 1;
                for (int p = 2; p <= 997; p++) {
                    if (Edges.isPrime(p)) {
                        smallest = Math.min(smallest, (int) x.ask("isMaximalAt", 0, p));
                    }
                }
                Check.same("maximal everywhere: the tabulated form of discriminant " + FORMS[i], smallest, field);
            }
        });
        doc.says("(These are the totally real cubic fields with a discriminant of at most limit.)", () -> {
            new Calls().tells(2, "countFields", 100).tells(27, "countFields", 1000);
            // 592 = 4 * 148, 729 = 9 * 81, 784 = 16 * 49 and 916 = 4 * 229 are discriminants of smaller rings alone.
            for (int order : new int[] {592, 729, 784, 916}) {
                Calls x = new Calls();
                long before = x.ask("countFields", order - 1);
                x.tells(before, "countFields", order);
                x.tells(x.ask("countForms", order - 1) + 1, "countForms", order);
            }
        });
        doc.says("`limit`: from 1 to 1000", () -> {
            Edges.range(Calls::new, BAD_VALUE, 1, 1000, 0, "countFields", 1);
            new Calls().tells(0, "countFields", 1).tells(27, "countFields", 1000);
        });
        doc.says("Returns their number", () -> {
            new Calls().tells(0, "countFields", 48).tells(1, "countFields", 49).tells(1, "countFields", 80).tells(2, "countFields", 81)
                    .tells(26, "countFields", 992).tells(27, "countFields", 993).tells(27, "countFields", 999);
            Calls.full(1, 1, -2, -1).tells(27, "countFields", 1000).tells(1, "countFields", 49);
        });
        doc.says("BAD_VALUE.", () -> limitsAreRefused("countFields"));
    }

    private static void fieldDiscriminant(Sentences doc) {
        doc.section("Promise 26: fieldDiscriminant");
        doc.says("Lists the discriminants of the forms counted by countFields(1000) in ascending order; a discriminant that belongs to"
                + " several forms is listed several times.", () -> {
            Calls x = new Calls();
            for (int k = 0; k < FIELDS.length; k++) {
                x.tells(FIELDS[k], "fieldDiscriminant", k);
            }
            // As many entries to each limit as there are forms, so each form has its entry.
            for (int k = 0; k < FIELDS.length; k++) {
                int discriminant = (int) x.ask("fieldDiscriminant", k);
                x.tells(k + 1, "countFields", discriminant).tells(k, "countFields", discriminant - 1);
            }
        });
        doc.says("`k`: place in the list, from 0", () -> new Calls().tells(49, "fieldDiscriminant", 0)
                .tells(BAD_VALUE, "fieldDiscriminant", -1).tells(BAD_VALUE, "fieldDiscriminant", -27)
                .tells(BAD_VALUE, "fieldDiscriminant", -65536));
        doc.says("Returns the discriminant", () -> {
            new Calls().tells(993, "fieldDiscriminant", 26);
            new Calls().tells(49, "fieldDiscriminant", 0).tells(81, "fieldDiscriminant", 1).tells(985, "fieldDiscriminant", 25);
            // What was asked before is no matter.
            new Calls().tells(1, "countFields", 49).tells(993, "fieldDiscriminant", 26).tells(0, "countForms", 1)
                    .tells(148, "fieldDiscriminant", 2).does(0, "clearForms").tells(148, "fieldDiscriminant", 2);
        });
        doc.says("BAD_VALUE if k is negative", () -> new Calls().tells(BAD_VALUE, "fieldDiscriminant", -1)
                .tells(BAD_VALUE, "fieldDiscriminant", Integer.MIN_VALUE).tells(49, "fieldDiscriminant", 0)
                .tells(BAD_VALUE, "fieldDiscriminant", -1));
        doc.says("NONE if the list has k or fewer entries.", () -> {
            Calls x = new Calls().tells(NONE, "fieldDiscriminant", 27).tells(993, "fieldDiscriminant", 26);
            for (int k : new int[] {27, 28, 31, 32, 63, 64, 65, 99, 65536, Integer.MAX_VALUE}) {
                x.tells(NONE, "fieldDiscriminant", k);
            }
        });
    }
}
