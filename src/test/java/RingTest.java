/** Promises 13 to 19, sentence by sentence: the registers, and the ring of a form. */
public final class RingTest implements Codes {
    public static void main(String[] args) {
        Sentences doc = new Sentences();
        setElement(doc);
        element(doc);
        multiply(doc);
        trace(doc);
        norm(doc);
        traceDeterminant(doc);
        elementIndex(doc);
        doc.end();
    }

    /** A store with these forms, and 1, w, z, 1 + 2 w - z, all parts 100, and mixed signs in the registers. */
    private static Calls withElements(int... coefficients) {
        return Calls.with(coefficients).does(1, "setElement", 0, 1, 0, 0).does(1, "setElement", 1, 0, 1, 0)
                .does(1, "setElement", 2, 0, 0, 1).does(1, "setElement", 3, 1, 2, -1).does(1, "setElement", 4, 100, 100, 100)
                .does(1, "setElement", 5, -100, 100, -100);
    }

    private static void setElement(Sentences doc) {
        doc.section("Promise 13: setElement");
        doc.says("Sets a register.", () -> new Calls().does(1, "setElement", 2, -1, 2, -3).holdsElement(2, -1, 2, -3)
                .holdsElement(1, 0, 0, 0).holdsElement(3, 0, 0, 0).holdsForms(0));
        doc.says("`register`: from 0 to 5", () -> {
            Edges.register(Calls::new, NO_SUCH_REGISTER, 0, "setElement", 0, 1, 2, 3);
            new Calls().does(1, "setElement", 0, 1, 2, 3).does(1, "setElement", 5, 4, 5, 6).holdsElement(0, 1, 2, 3)
                    .holdsElement(5, 4, 5, 6);
        });
        String[] lines = {"`u`: from -100 to 100", "`v`: from -100 to 100", "`t`: from -100 to 100"};
        for (int k = 0; k < 3; k++) {
            int place = k;
            doc.says(lines[place], () -> {
                Edges.range(Calls::new, BAD_VALUE, -100, 100, place + 1, "setElement", 3, 1, 2, 3);
                int[] high = {1, 2, 3};
                high[place] = 100;
                int[] low = {1, 2, 3};
                low[place] = -100;
                new Calls().does(1, "setElement", 3, high[0], high[1], high[2]).holdsElement(3, high)
                        .does(1, "setElement", 3, low[0], low[1], low[2]).holdsElement(3, low);
            });
        }
        doc.says("Returns 1 if this changed the register", () -> new Calls().does(1, "setElement", 0, 100, -100, 100)
                .does(1, "setElement", 0, 99, -100, 100).does(1, "setElement", 0, 99, -99, 100).does(1, "setElement", 0, 99, -99, 99)
                .does(1, "setElement", 0, -99, -99, 99).does(1, "setElement", 0, 0, 0, 0).holdsElement(0, 0, 0, 0));
        doc.says("otherwise 0", () -> new Calls().tells(0, "setElement", 0, 0, 0, 0).does(1, "setElement", 5, -100, 100, -100)
                .tells(0, "setElement", 5, -100, 100, -100).holdsElement(5, -100, 100, -100));
        doc.says("NO_SUCH_REGISTER", () -> new Calls().tells(NO_SUCH_REGISTER, "setElement", 6, 0, 0, 0)
                .tells(NO_SUCH_REGISTER, "setElement", -1, 1, 2, 3).tells(NO_SUCH_REGISTER, "setElement", 6, 101, 0, 0)
                .tells(NO_SUCH_REGISTER, "setElement", -1, 0, 0, -101));
        doc.says("BAD_VALUE.", () -> new Calls().does(1, "setElement", 0, 1, 2, 3).tells(BAD_VALUE, "setElement", 0, 101, 0, 0)
                .tells(BAD_VALUE, "setElement", 0, 1, 2, -101).tells(BAD_VALUE, "setElement", 0, 101, -101, 101)
                .holdsElement(0, 1, 2, 3));
    }

    private static void element(Sentences doc) {
        doc.section("Promise 14: element");
        doc.says("`register`: from 0 to 5", () -> Edges.register(Calls::new, NO_SUCH_REGISTER, 0, "element", 0, 2));
        doc.says("`k`: 0 for u, 1 for v, 2 for t", () -> {
            Edges.range(Calls::new, BAD_VALUE, 0, 2, 1, "element", 5, 0);
            new Calls().does(1, "setElement", 3, -1, 2, -3).tells(-1, "element", 3, 0).tells(2, "element", 3, 1).tells(-3, "element", 3, 2)
                    .tells(BAD_VALUE, "element", 2, 3).tells(BAD_VALUE, "element", 4, -1);
        });
        doc.says("Returns the integer", () -> withElements().tells(100, "element", 4, 0).tells(-100, "element", 5, 2)
                .tells(1, "element", 0, 0).tells(0, "element", 0, 1));
        doc.says("NO_SUCH_REGISTER", () -> new Calls().tells(NO_SUCH_REGISTER, "element", 6, 0).tells(NO_SUCH_REGISTER, "element", -1, 0)
                .tells(NO_SUCH_REGISTER, "element", 6, 3).tells(NO_SUCH_REGISTER, "element", -1, -1));
        doc.says("BAD_VALUE.", () -> new Calls().tells(BAD_VALUE, "element", 0, 3).tells(BAD_VALUE, "element", 5, -1));
    }

    private static void multiply(Sentences doc) {
        doc.section("Promise 15: multiply");
        doc.says("Multiplies the elements of two registers in the ring of a form and puts the product into a register"
                + " (which may be one of both).", RingTest::products);
        doc.says("`form`: number of a stored form", () -> Edges.form(NO_SUCH_FORM, 0, "multiply", 0, 0, 1, 2));
        doc.says("`first`: register of the first factor", () -> multiplyRegister(1));
        doc.says("`second`: register of the second factor", () -> multiplyRegister(2));
        doc.says("`target`: register of the product", () -> multiplyRegister(3));
        doc.says("Returns 1", () -> {
            // Also where the product is what the target held already.
            withElements(2, 3, -5, 4).tells(1, "multiply", 0, 0, 0, 0).tells(1, "multiply", 0, 0, 4, 4);
            Calls.with(0, 0, 0, 0).tells(1, "multiply", 0, 0, 0, 0);
        });
        doc.says("NO_SUCH_FORM", () -> withElements(2, 3, -5, 4).tells(NO_SUCH_FORM, "multiply", 1, 0, 0, 0)
                .tells(NO_SUCH_FORM, "multiply", -1, 6, 6, 6).tells(NO_SUCH_FORM, "multiply", 1, 4, 4, 4));
        doc.says("NO_SUCH_REGISTER if one of the registers is not valid", () -> withElements(2, 3, -5, 4)
                .tells(NO_SUCH_REGISTER, "multiply", 0, 6, 0, 0).tells(NO_SUCH_REGISTER, "multiply", 0, 0, 6, 0)
                .tells(NO_SUCH_REGISTER, "multiply", 0, 0, 0, 6).tells(NO_SUCH_REGISTER, "multiply", 0, -1, 6, -1)
                // The product would be too large as well.
                .tells(NO_SUCH_REGISTER, "multiply", 0, 4, 4, 6).tells(NO_SUCH_REGISTER, "multiply", 0, 4, 4, -1));
        doc.says("OVERFLOW if an integer of the product is not from -100 to 100.", RingTest::productsAtTheEdge);
    }

    private static void products() {
        Calls x = withElements(2, 3, -5, 4);
        x.does(1, "multiply", 0, 1, 1, 4).holdsElement(4, 10, 3, -2);
        x.does(1, "multiply", 0, 2, 2, 4).holdsElement(4, -12, 4, 5);
        x.does(1, "multiply", 0, 1, 2, 4).holdsElement(4, -8, 0, 0);
        x.does(1, "multiply", 0, 2, 1, 5).holdsElement(5, -8, 0, 0);
        x.does(1, "setElement", 5, 0, 1, 3);
        x.does(1, "multiply", 0, 3, 5, 4).holdsElement(4, 16, -5, -16).holdsElement(3, 1, 2, -1).holdsElement(5, 0, 1, 3);
        x.does(1, "multiply", 0, 5, 3, 4).holdsElement(4, 16, -5, -16);
        // Onto the first factor, onto the second, and onto the only one.
        x.does(1, "multiply", 0, 3, 5, 3).holdsElement(3, 16, -5, -16).holdsElement(5, 0, 1, 3);
        x.does(1, "setElement", 3, 1, 2, -1);
        x.does(1, "multiply", 0, 3, 5, 5).holdsElement(5, 16, -5, -16).holdsElement(3, 1, 2, -1);
        x.does(1, "multiply", 0, 1, 1, 1).holdsElement(1, 10, 3, -2).holdsForm(0, 2, 3, -5, 4);
    }

    private static void multiplyRegister(int place) {
        Edges.register(() -> withElements(0, 0, 0, 0).does(1, "setElement", 5, 1, 0, 0).does(1, "setElement", 4, 1, 0, 0),
                NO_SUCH_REGISTER, place, "multiply", 0, 0, 0, 0);
    }

    private static void productsAtTheEdge() {
        // w w = -a c + b w - a z and z z = -b d + d w - c z: one part is 100 or 101 in both signs, the others are small.
        for (int sign = -1; sign <= 1; sign += 2) {
            withElements(1, 0, -100 * sign, 0).does(1, "multiply", 0, 1, 1, 3).holdsElement(3, 100 * sign, 0, -1);
            withElements(1, 0, -101 * sign, 0).tells(OVERFLOW, "multiply", 0, 1, 1, 3);
            withElements(0, 100 * sign, 0, 0).does(1, "multiply", 0, 1, 1, 3).holdsElement(3, 0, 100 * sign, 0);
            withElements(0, 101 * sign, 0, 0).tells(OVERFLOW, "multiply", 0, 1, 1, 3);
            withElements(0, 0, -100 * sign, 0).does(1, "multiply", 0, 2, 2, 3).holdsElement(3, 0, 0, 100 * sign);
            withElements(0, 0, -101 * sign, 0).tells(OVERFLOW, "multiply", 0, 2, 2, 3);
        }
        // Far too large, also where a factor is the target.
        withElements(300, 300, 300, 300, 300, -300, 300, -300).tells(OVERFLOW, "multiply", 0, 4, 4, 4)
                .tells(OVERFLOW, "multiply", 1, 4, 5, 4).tells(OVERFLOW, "multiply", 1, 4, 5, 5)
                .holdsElement(4, 100, 100, 100).holdsElement(5, -100, 100, -100);
        Calls x = new Calls().does(0, "addForm", 0, 0, 0, 0).does(1, "setElement", 0, 10, 0, 0).does(1, "setElement", 1, -10, 0, 0);
        x.does(1, "multiply", 0, 0, 0, 2).holdsElement(2, 100, 0, 0).does(1, "multiply", 0, 0, 1, 2).holdsElement(2, -100, 0, 0);
        x.does(1, "setElement", 0, 11, 0, 0).tells(OVERFLOW, "multiply", 0, 0, 0, 2).tells(OVERFLOW, "multiply", 0, 0, 1, 2);
    }

    private static void trace(Sentences doc) {
        doc.section("Promise 16: trace");
        doc.says("`form`: number of a stored form", () -> Edges.form(NO_VALUE, 0, "trace", 0, 0));
        doc.says("`register`: register of the element", () -> Edges.register(() -> withElements(2, 3, -5, 4), NO_VALUE, 1, "trace", 0, 0));
        doc.says("Returns the trace of the element in the ring of the form", () -> {
            withElements(2, 3, -5, 4).tells(3, "trace", 0, 0).tells(3, "trace", 0, 1).tells(5, "trace", 0, 2).tells(4, "trace", 0, 3)
                    .does(1, "setElement", 3, 16, -5, -16).tells(-47, "trace", 0, 3);
            // The largest and the least.
            withElements(300, 300, -300, 300, 300, -300, -300, 300).tells(60300, "trace", 0, 4)
                    .does(1, "setElement", 4, -100, -100, -100).tells(-60300, "trace", 0, 4)
                    .tells(-60300, "trace", 1, 5);
            Calls.with(300, 300, 300, 300).tells(0, "trace", 0, 0);
        });
        doc.says("NO_VALUE if form or register is not valid.", () -> longQuestionIsRefused("trace"));
    }

    private static void longQuestionIsRefused(String name) {
        withElements(2, 3, -5, 4).tells(NO_VALUE, name, 1, 0).tells(NO_VALUE, name, -1, 0).tells(NO_VALUE, name, 0, 6)
                .tells(NO_VALUE, name, 0, -1).tells(NO_VALUE, name, 1, 6).does(1, "clearForms").tells(NO_VALUE, name, 0, 0);
    }

    private static void norm(Sentences doc) {
        doc.section("Promise 17: norm");
        doc.says("`form`: number of a stored form", () -> Edges.form(NO_VALUE, 0, "norm", 0, 0));
        doc.says("`register`: register of the element", () -> Edges.register(() -> withElements(2, 3, -5, 4), NO_VALUE, 1, "norm", 0, 0));
        doc.says("Returns the norm of the element in the ring of the form", () -> {
            withElements(2, 3, -5, 4).tells(1, "norm", 0, 0).tells(16, "norm", 0, 1).tells(-32, "norm", 0, 2).tells(296, "norm", 0, 3)
                    .does(1, "setElement", 3, 16, -5, -16).tells(56240, "norm", 0, 3)
                    .does(1, "setElement", 3, -3, 0, 0).tells(-27, "norm", 0, 3);
            withElements(300, 300, 300, 300).tells(360001000000L, "norm", 0, 4);
            // Beyond 32 bits by far, in both signs.
            withElements(-300, -300, 300, 300).does(1, "setElement", 0, -100, 100, 100).tells(216359399000000L, "norm", 0, 0)
                    .does(1, "setElement", 0, 100, -100, -100).tells(-216359399000000L, "norm", 0, 0);
            Calls.with(300, 300, 300, 300).tells(0, "norm", 0, 0);
        });
        doc.says("NO_VALUE if form or register is not valid.", () -> longQuestionIsRefused("norm"));
    }

    private static void traceDeterminant(Sentences doc) {
        doc.section("Promise 18: traceDeterminant");
        doc.says("Computes the determinant of the 3 by 3 matrix of the traces of the products of any two of 1, w and z.",
                RingTest::determinantByTraces);
        doc.says("`form`: number of a stored form", () -> Edges.form(NO_VALUE, 0, "traceDeterminant", 0));
        doc.says("Returns the determinant", () -> Calls.with(2, 3, -5, 4, 1, 1, -2, -1, 0, 0, 0, 0, 1, 0, 0, -2, 300, 300, -300, 300,
                -122, -300, 300, 300).tells(-3095, "traceDeterminant", 0).tells(49, "traceDeterminant", 1)
                .tells(0, "traceDeterminant", 2).tells(-108, "traceDeterminant", 3).tells(-356400000000L, "traceDeterminant", 4)
                .tells(76799880000L, "traceDeterminant", 5));
        doc.says("NO_VALUE if form is not valid.", () -> Calls.with(2, 3, -5, 4).tells(NO_VALUE, "traceDeterminant", 1)
                .tells(NO_VALUE, "traceDeterminant", -1).does(1, "clearForms").tells(NO_VALUE, "traceDeterminant", 0));
    }

    /** From the answers of multiply and trace. */
    private static void determinantByTraces() {
        int[][] forms = {{2, 3, -5, 4}, {1, 1, -2, -1}, {9, -8, 7, -6}, {0, 0, 0, 0}, {0, 1, 0, 0}, {1, 0, 0, 0}, {0, 0, 1, 0}, {0, 0, 0, 1}};
        for (int[] form : forms) {
            Calls x = withElements(form);
            long[] m = new long[9];
            for (int i = 0; i < 9; i++) {
                x.does(1, "multiply", 0, i / 3, i % 3, 3);
                m[i] = x.ask("trace", 0, 3);
            }
            long determinant = m[0] * m[4] * m[8] + m[1] * m[5] * m[6] + m[2] * m[3] * m[7]
                    - m[2] * m[4] * m[6] - m[1] * m[3] * m[8] - m[0] * m[5] * m[7];
            x.tells(determinant, "traceDeterminant", 0);
        }
    }

    private static void elementIndex(Sentences doc) {
        doc.section("Promise 19: elementIndex");
        doc.says("Computes the index form at an element e = u + v w + t z: the absolute value of the determinant of the 2 by 2 matrix"
                + " whose rows hold the w part and the z part of e, and of e * e.", () -> {
            Calls x = withElements(2, 3, -5, 4).tells(10, "elementIndex", 0, 3);
            // The rows are (2, -1) and the parts of the square, which are asked for.
            x.does(1, "multiply", 0, 3, 3, 4);
            long v = x.ask("element", 4, 1);
            long t = x.ask("element", 4, 2);
            Check.same("the determinant", Math.abs(2 * t + v), 10);
            // The number u is no matter, nor is the sign.
            x.does(1, "setElement", 0, 100, 2, -1).tells(10, "elementIndex", 0, 0);
            x.does(1, "setElement", 0, -100, -2, 1).tells(10, "elementIndex", 0, 0);
            withElements(-1, 0, 0, 0, 1, 0, 0, 0).tells(1, "elementIndex", 0, 1).tells(1, "elementIndex", 1, 1);
        });
        doc.says("It is the index of the ring Z[e] in the ring of the form, or 0 if that index is infinite.", () -> {
            // 1, w and w w span a part of index 2; z and its powers one of index 4; numbers alone have rank 1.
            withElements(2, 3, -5, 4).tells(2, "elementIndex", 0, 1).tells(4, "elementIndex", 0, 2).tells(0, "elementIndex", 0, 0);
            // In the ring of y x^2, w w = w and z z = 0: w is idempotent, and Z[w] has rank 2.
            withElements(0, 1, 0, 0).tells(0, "elementIndex", 0, 1).tells(0, "elementIndex", 0, 2).tells(4, "elementIndex", 0, 3);
            withElements(0, 0, 0, 0).tells(0, "elementIndex", 0, 4);
        });
        doc.says("`form`: number of a stored form", () -> Edges.form(NO_VALUE, 0, "elementIndex", 0, 0));
        doc.says("`register`: register of the element",
                () -> Edges.register(() -> withElements(2, 3, -5, 4), NO_VALUE, 1, "elementIndex", 0, 0));
        doc.says("Returns the value", () -> {
            // The largest; it is the absolute value of f at (v, t).
            withElements(300, -300, 300, -300, 300, 300, 300, 300).tells(1200000000L, "elementIndex", 0, 5).tells(0, "elementIndex", 0, 4)
                    .tells(1200000000L, "elementIndex", 1, 4).tells(0, "elementIndex", 1, 5);
        });
        doc.says("NO_VALUE if form or register is not valid.", () -> longQuestionIsRefused("elementIndex"));
    }
}
