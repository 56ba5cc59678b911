import java.io.IOException;
import java.lang.reflect.Constructor;
import java.lang.reflect.Field;
import java.lang.reflect.Method;
import java.lang.reflect.Modifier;
import java.nio.file.Files;
import java.nio.file.Path;
import java.util.Arrays;
import java.util.Set;
import java.util.TreeSet;
import java.util.regex.Matcher;
import java.util.regex.Pattern;

/** The face of the class as the document has it, and those rules of LANGUAGE.md that can be seen from outside. */
public final class FaceTest {
    private static final String[] METHODS = {
        "int addForm(int, int, int, int)", "int clearForms()", "int coefficient(int, int)",
        "long discriminant(int)", "long hessian(int, int)", "long value(int, int, int)",
        "int substitute(int, int, int, int, int)", "int isReducible(int)", "int canonical(int)",
        "int areEquivalent(int, int)", "int automorphismCount(int)", "int setElement(int, int, int, int)",
        "int element(int, int)", "int multiply(int, int, int, int)", "long trace(int, int)",
        "long norm(int, int)", "long traceDeterminant(int)", "long elementIndex(int, int)",
        "int splitting(int, int)", "int isMaximalAt(int, int)", "int overring(int, int)",
        "int maximalOverring(int)", "int countForms(int)", "int countFields(int)", "int fieldDiscriminant(int)"};
    private static final String[] FIELDS = {
        "int NO_SUCH_FORM", "int NO_SUCH_REGISTER", "int BAD_VALUE", "int FULL", "int OVERFLOW",
        "int NOT_POSITIVE", "int REDUCIBLE", "int NONE", "long NO_VALUE"};
    private static final String[] BANNED = {
        "\\bthrow\\b", "\\btry\\b", "\\bcatch\\b", "\\bsynchronized\\b", "\\bassert\\b", "\\bimport\\b", "\\bpackage\\b",
        "->", "::", "\\w+Exact\\b", "\\bThread\\b", "\\bSystem\\.(?!arraycopy)"};
    private static int wrong = 0;

    public static void main(String[] args) throws IOException {
        checkMembers();
        checkClasses();
        checkSource();
        System.out.println(wrong == 0 ? "the face is as due" : wrong + " faults of the face");
        if (wrong != 0) {
            System.exit(1);
        }
    }

    private static void fault(String what) {
        wrong++;
        System.out.println(what);
    }

    private static void same(String what, Set<String> got, String[] want) {
        Set<String> due = new TreeSet<>(Arrays.asList(want));
        if (!got.equals(due)) {
            fault(what + ": " + got + ", due is " + due);
        }
    }

    private static void checkMembers() {
        Set<String> methods = new TreeSet<>();
        Set<String> names = new TreeSet<>();
        for (Method m : CubicForms.class.getDeclaredMethods()) {
            if (!Modifier.isPrivate(m.getModifiers())) {
                String parameters = Arrays.toString(m.getParameterTypes());
                methods.add(m.getReturnType() + " " + m.getName() + "(" + parameters.substring(1, parameters.length() - 1) + ")");
                names.add(m.getName());
                if (m.getModifiers() != Modifier.PUBLIC) {
                    fault("not simply public: " + m);
                }
            }
        }
        same("methods", methods, METHODS);
        for (Class<?> c : allClasses()) {
            for (Method m : c.getDeclaredMethods()) {
                if (Modifier.isPrivate(m.getModifiers()) && names.contains(m.getName())) {
                    fault("a private method with the name of a public one: " + m);
                }
            }
        }
        Set<String> fields = new TreeSet<>();
        for (Field f : CubicForms.class.getDeclaredFields()) {
            if (!Modifier.isPrivate(f.getModifiers())) {
                fields.add(f.getType() + " " + f.getName());
                if (f.getModifiers() != (Modifier.PUBLIC | Modifier.STATIC | Modifier.FINAL)) {
                    fault("no public constant: " + f);
                }
            }
        }
        same("constants", fields, FIELDS);
        Constructor<?>[] constructors = CubicForms.class.getDeclaredConstructors();
        if (constructors.length != 1 || constructors[0].getParameterCount() != 0 || constructors[0].getModifiers() != Modifier.PUBLIC) {
            fault("constructors: " + Arrays.toString(constructors));
        }
    }

    private static Class<?>[] allClasses() {
        Class<?>[] inside = CubicForms.class.getDeclaredClasses();
        Class<?>[] all = Arrays.copyOf(inside, inside.length + 1);
        all[inside.length] = CubicForms.class;
        return all;
    }

    private static void checkClasses() {
        if (CubicForms.class.getModifiers() != (Modifier.PUBLIC | Modifier.FINAL)) {
            fault("the class is not public and final");
        }
        if (allClasses().length > 12) {
            fault("more than twelve classes");
        }
        for (Class<?> c : allClasses()) {
            if (c != CubicForms.class && !Modifier.isStatic(c.getModifiers())) {
                fault("not static: " + c);
            }
            for (Field f : c.getDeclaredFields()) {
                if (Modifier.isStatic(f.getModifiers()) && !Modifier.isFinal(f.getModifiers())) {
                    fault("static and not final: " + f);
                }
            }
            for (Method m : c.getDeclaredMethods()) {
                if (m.getParameterCount() > 7) {
                    fault("more than seven parameters: " + m);
                }
            }
        }
    }

    private static void checkSource() throws IOException {
        String source = Files.readString(Path.of("src/main/java/CubicForms.java"));
        String code = source.replaceAll("(?s)/\\*.*?\\*/", "").replaceAll("//[^\n]*", "");
        for (String banned : BANNED) {
            Matcher m = Pattern.compile(banned).matcher(code);
            if (m.find()) {
                fault("LANGUAGE.md leaves no room for: " + m.group());
            }
        }
    }
}
