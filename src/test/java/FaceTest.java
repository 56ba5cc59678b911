import java.io.IOException;
import java.lang.reflect.Field;
import java.lang.reflect.Method;
import java.lang.reflect.Modifier;
import java.nio.file.Files;
import java.nio.file.Path;
import java.util.Arrays;
import java.util.List;
import java.util.Set;
import java.util.TreeSet;
import java.util.regex.Matcher;
import java.util.regex.Pattern;

/** "The public face" of the document, line by line, and those rules of LANGUAGE.md that can be seen from outside. */
public final class FaceTest {
    private static final Path SOURCE = Path.of("src/main/java/CubicForms.java");
    private static final Pattern CONSTANT = Pattern.compile("public static final (int|long) (\\w+) = (.*);");
    private static final Pattern METHOD = Pattern.compile("public (int|long) (\\w+)\\((.*)\\);");
    private static final String[] BANNED = {
        "\\bthrow\\b", "\\btry\\b", "\\bcatch\\b", "\\bsynchronized\\b", "\\bassert\\b", "\\bimport\\b", "\\bpackage\\b",
        "->", "::", "\\w+Exact\\b", "\\bThread\\b", "\\bSystem\\.(?!arraycopy)"};

    public static void main(String[] args) throws IOException {
        String source = Files.readString(SOURCE);
        Sentences doc = new Sentences();
        publicFace(doc, source);
        Check.under("LANGUAGE.md");
        checkNames();
        checkClasses();
        checkWords(source);
        doc.end();
    }

    private static void publicFace(Sentences doc, String source) {
        List<String> lines = doc.all("^    (public .*;)$");
        doc.section("The public face");
        doc.says("```java public final class CubicForms {", () -> {
            Check.same("the modifiers of the class", CubicForms.class.getModifiers(), Modifier.PUBLIC | Modifier.FINAL);
            Check.holds("the class without a package", CubicForms.class.getPackageName().isEmpty());
        });
        for (String line : lines) {
            doc.says(line, () -> {
                // The names of the parameters stand in the source alone.
                String written = CONSTANT.matcher(line).matches() ? line : line.replace(";", " {");
                Check.holds("the line in the source", source.contains("\n    " + written + "\n"));
                checkMember(line);
            });
        }
        doc.says("} ```", () -> checkNothingElse(lines.size()));
    }

    private static void checkMember(String line) {
        try {
            Matcher constant = CONSTANT.matcher(line);
            Matcher method = METHOD.matcher(line);
            if (constant.matches()) {
                Field field = CubicForms.class.getDeclaredField(constant.group(2));
                Check.holds("the type", field.getType().getName().equals(constant.group(1)));
                Check.same("the modifiers", field.getModifiers(), Modifier.PUBLIC | Modifier.STATIC | Modifier.FINAL);
                String value = constant.group(3);
                Check.same("the value", field.getLong(null), value.equals("Long.MIN_VALUE") ? Long.MIN_VALUE : Long.parseLong(value));
            } else if (method.matches()) {
                int count = method.group(3).isEmpty() ? 0 : method.group(3).split(", ").length;
                Class<?>[] types = new Class<?>[count];
                Arrays.fill(types, int.class);
                Method found = CubicForms.class.getDeclaredMethod(method.group(2), types);
                Check.holds("the type of the answer", found.getReturnType().getName().equals(method.group(1)));
                Check.same("the modifiers", found.getModifiers(), Modifier.PUBLIC);
            } else {
                Check.holds("the constructor", line.equals("public CubicForms();"));
                Check.same("its modifiers", CubicForms.class.getDeclaredConstructor().getModifiers(), Modifier.PUBLIC);
            }
        } catch (ReflectiveOperationException e) {
            Check.fault("the class has no such member: " + e.getMessage());
        }
    }

    private static void checkNothingElse(int due) {
        int count = CubicForms.class.getDeclaredConstructors().length;
        for (Method method : CubicForms.class.getDeclaredMethods()) {
            count += Modifier.isPrivate(method.getModifiers()) ? 0 : 1;
        }
        for (Field field : CubicForms.class.getDeclaredFields()) {
            count += Modifier.isPrivate(field.getModifiers()) ? 0 : 1;
        }
        Check.same("the number of members that are not private", count, due);
        Check.same("the number of lines", due, 9 + 1 + 25);
    }

    private static void checkNames() {
        Set<String> names = new TreeSet<>();
        for (Method method : CubicForms.class.getDeclaredMethods()) {
            if (!Modifier.isPrivate(method.getModifiers())) {
                names.add(method.getName());
            }
        }
        for (Class<?> c : allClasses()) {
            for (Method method : c.getDeclaredMethods()) {
                Check.holds("that no private method has the name of a public one: " + method,
                        !Modifier.isPrivate(method.getModifiers()) || !names.contains(method.getName()));
            }
        }
    }

    private static Class<?>[] allClasses() {
        Class<?>[] inside = CubicForms.class.getDeclaredClasses();
        Class<?>[] all = Arrays.copyOf(inside, inside.length + 1);
        all[inside.length] = CubicForms.class;
        return all;
    }

    private static void checkClasses() {
        Check.holds("at most twelve classes", allClasses().length <= 12);
        for (Class<?> c : allClasses()) {
            Check.holds("a static class inside: " + c, c == CubicForms.class || Modifier.isStatic(c.getModifiers()));
            for (Field field : c.getDeclaredFields()) {
                Check.holds("a static field is final: " + field,
                        !Modifier.isStatic(field.getModifiers()) || Modifier.isFinal(field.getModifiers()));
            }
            for (Method method : c.getDeclaredMethods()) {
                Check.holds("at most seven parameters: " + method, method.getParameterCount() <= 7);
            }
        }
    }

    private static void checkWords(String source) {
        String code = source.replaceAll("(?s)/\\*.*?\\*/", "").replaceAll("//[^\n]*", "");
        for (String banned : BANNED) {
            Check.holds("the class without " + banned, !Pattern.compile(banned).matcher(code).find());
        }
    }
}
