import java.lang.reflect.Method;
import java.util.ArrayList;
import java.util.Arrays;
import java.util.HashMap;
import java.util.List;
import java.util.Map;

/** An object of CubicForms and the calls that were made on it, by name, so that they can be made again. */
final class Calls implements Codes {
    /** The document promises no more calls on one object. */
    static final int LAST = 512;

    private static final int ROOM = 60;
    private static final int REGISTERS = 6;
    private static final long THREW = Long.MAX_VALUE;
    private static final Map<String, Method> METHODS = methods();

    private record Call(String name, int[] arguments) {
        @Override
        public String toString() {
            String list = Arrays.toString(arguments);
            return name + "(" + list.substring(1, list.length() - 1) + ")";
        }
    }

    private final CubicForms object = new CubicForms();
    private final List<Call> made = new ArrayList<>();

    private static Map<String, Method> methods() {
        Map<String, Method> found = new HashMap<>();
        for (Method method : CubicForms.class.getMethods()) {
            if (method.getDeclaringClass() == CubicForms.class) {
                found.put(method.getName(), method);
            }
        }
        return found;
    }

    /** A new object that stores forms, four coefficients each. */
    static Calls with(int... coefficients) {
        Calls x = new Calls();
        for (int i = 0; i < coefficients.length; i += 4) {
            x.does(i / 4, "addForm", coefficients[i], coefficients[i + 1], coefficients[i + 2], coefficients[i + 3]);
        }
        return x;
    }

    /** The same, and behind them as many zero forms as there is room for, less some. */
    static Calls withRoomFor(int left, int... coefficients) {
        return with(Arrays.copyOf(coefficients, 4 * (ROOM - left)));
    }

    static Calls full(int... coefficients) {
        return withRoomFor(0, coefficients);
    }

    long ask(String name, int... arguments) {
        made.add(new Call(name, arguments));
        if (made.size() > LAST) {
            Check.fault("the test itself asks more often than " + LAST + " times");
        }
        return answer(object, name, arguments);
    }

    /** For calls beyond the last: they may answer what they like, but not throw. */
    void askForNothing(String name, int... arguments) {
        Check.holds(new Call(name, arguments) + " came back", answer(object, name, arguments) != THREW);
    }

    private static long answer(CubicForms x, String name, int... arguments) {
        Object[] boxed = Arrays.stream(arguments).boxed().toArray();
        try {
            return ((Number) METHODS.get(name).invoke(x, boxed)).longValue();
        } catch (ReflectiveOperationException e) {
            Check.fault(new Call(name, arguments) + " threw " + e.getCause());
            return THREW;
        }
    }

    /** Makes a call that may change the object. */
    Calls does(long want, String name, int... arguments) {
        String before = run();
        Check.same(before + new Call(name, arguments), ask(name, arguments), want);
        return this;
    }

    /** Makes a call that answers and changes nothing: a question, or a call that is refused. */
    Calls tells(long want, String name, int... arguments) {
        List<Long> before = stateAfter(made);
        does(want, name, arguments);
        Check.holds("that " + run() + " leaves all as it was", before.equals(stateAfter(made)));
        return this;
    }

    /** What can be seen of a twin of this object; so this object has not to be asked. */
    private static List<Long> stateAfter(List<Call> calls) {
        CubicForms twin = new CubicForms();
        for (Call call : calls) {
            answer(twin, call.name, call.arguments);
        }
        List<Long> seen = new ArrayList<>();
        for (int form = 0; form < ROOM && answer(twin, "coefficient", form, 0) != NO_SUCH_FORM; form++) {
            for (int k = 0; k < 4; k++) {
                seen.add(answer(twin, "coefficient", form, k));
            }
        }
        for (int place = 0; place < 3 * REGISTERS; place++) {
            seen.add(answer(twin, "element", place / 3, place % 3));
        }
        seen.add(answer(twin, "clearForms"));
        return seen;
    }

    Calls holdsForm(int form, int... coefficients) {
        for (int k = 0; k < 4; k++) {
            does(coefficients[k], "coefficient", form, k);
        }
        return this;
    }

    Calls holdsElement(int register, int... parts) {
        for (int k = 0; k < 3; k++) {
            does(parts[k], "element", register, k);
        }
        return this;
    }

    /** Looks at a twin for the number of forms. */
    Calls holdsForms(int count) {
        List<Long> seen = stateAfter(made);
        Check.same(run() + "the number of forms", seen.get(seen.size() - 1), count);
        return this;
    }

    int count() {
        return made.size();
    }

    private String run() {
        int from = Math.max(0, made.size() - 6);
        StringBuilder text = new StringBuilder(from > 0 ? ".. " : "");
        for (Call call : made.subList(from, made.size())) {
            text.append(call).append("; ");
        }
        return text.toString();
    }
}
