import java.io.IOException;
import java.lang.reflect.Executable;
import java.lang.reflect.Field;
import java.lang.reflect.Method;
import java.lang.reflect.Modifier;
import java.nio.file.Files;
import java.nio.file.Path;
import java.util.ArrayList;
import java.util.Arrays;
import java.util.List;
import java.util.Set;
import java.util.regex.Matcher;
import java.util.regex.Pattern;

/** What a program can see of the rules of LANGUAGE.md (rule 1 is looked at by FaceTest). */
public final class RulesTest extends Checks {
    private static final Pattern COMMENT = Pattern.compile("(?s)/\\*.*?\\*/|//[^\\n]*");
    private static final Pattern LIBRARY_CALL = Pattern.compile("\\b([A-Z]\\w*)\\.(\\w+)\\(");
    private static final Pattern THROW = Pattern.compile("throw new (\\w+)\\((?:\"[^\"]*\")?\\);");
    private static final Set<String> IMPORTS = Set.of("java.util.Arrays", "java.util.NoSuchElementException",
        "java.util.ArrayList", "java.util.List", "java.util.Iterator");
    private static final Set<String> LIBRARY = Set.of("Arrays.copyOf", "Arrays.copyOfRange", "Arrays.fill",
        "System.arraycopy", "Math.max", "Math.min", "Math.abs", "Math.floorDiv", "Math.floorMod", "Integer.bitCount",
        "Integer.compare", "Long.bitCount", "Long.compare", "List.of");

    private static String program() {
        try {
            return Files.readString(Path.of("src/main/java/CarrierNet.java"));
        } catch (IOException e) {
            throw new IllegalStateException("the tests are run in the project's directory", e);
        }
    }

    private static String code() {
        return COMMENT.matcher(program()).replaceAll(" ");
    }

    private static List<Class<?>> classes() {
        List<Class<?>> all = new ArrayList<>();
        all.add(CarrierNet.class);
        all.addAll(Arrays.asList(CarrierNet.class.getDeclaredClasses()));
        return all;
    }

    private static void rules2And6And10NoWordThatIsLeftOut() {
        String[] words = {"->", "::", "\\bfinally\\b", "\\bsynchronized\\b", "\\bassert\\b", "\\bpackage\\b",
            "\\bprotected\\b", "\\bstatic \\{", "\\bThread\\b", "\\bRandom\\b", "\\bdouble\\b", "\\bfloat\\b",
            "\" *\\+", "\\+ *\"", "\\bcatch *\\( *(Runtime|Index|Array|Null|Arithmetic|Class|Negative)?\\w*Exception\\b"};
        for (String word : words) {
            Matcher found = Pattern.compile(word).matcher(code());
            no("the program has " + word, found.find());
        }
    }

    private static void rule3SignsOfTexts() {
        no("a sign above 126", program().chars().anyMatch(c -> c > 126));
    }

    private static void rule4TheLibrary() {
        Matcher imported = Pattern.compile("(?m)^import ([\\w.]+);").matcher(code());
        while (imported.find()) {
            yes("import " + imported.group(1), IMPORTS.contains(imported.group(1)));
        }
        due("imports by name", imported.reset().results().count(), code().lines().filter(l -> l.startsWith("import")).count());
        Matcher call = LIBRARY_CALL.matcher(code());
        while (call.find()) {
            String name = call.group(1) + "." + call.group(2);
            boolean own = classes().stream().anyMatch(c -> c.getSimpleName().equals(call.group(1)));
            yes("call of " + name, own || LIBRARY.contains(name));
        }
    }

    private static void rule5StaticFields() {
        for (Class<?> type : classes()) {
            for (Field field : type.getDeclaredFields()) {
                Class<?> of = field.getType().isArray() ? field.getType().getComponentType() : field.getType();
                boolean fixed = !Modifier.isStatic(field.getModifiers()) || Modifier.isFinal(field.getModifiers())
                    && (of.isPrimitive() || of == String.class);
                yes("a constant: " + field, fixed);
            }
        }
    }

    private static void rule6WhatIsThrown() {
        Matcher thrown = THROW.matcher(code());
        long all = Pattern.compile("\\bthrow\\b").matcher(code()).results().count();
        due("each throw is of one kind", all, thrown.results().count());
        thrown.reset();
        while (thrown.find()) {
            yes("throws " + thrown.group(1), thrown.group(1).equals("NoSuchElementException"));
        }
    }

    private static void rule11HowMuch() {
        yes("twelve classes at most", classes().size() <= 12);
        for (Class<?> type : classes()) {
            long fields = Arrays.stream(type.getDeclaredFields()).filter(f -> !Modifier.isStatic(f.getModifiers())).count();
            yes("twenty fields at most: " + type, fields <= 20);
            List<Executable> made = new ArrayList<>(Arrays.asList(type.getDeclaredMethods()));
            made.addAll(Arrays.asList(type.getDeclaredConstructors()));
            for (Executable e : made) {
                yes("seven parameters at most: " + e, e.getParameterCount() <= 7);
            }
        }
    }

    /** By the indentation: a method begins at 4 or 8 signs and ends at the first line that has its brace alone there. */
    private static void rule11MethodsAreShort() {
        int methods = 0;
        for (String indent : new String[] {"    ", "        "}) {
            String text = "(?m)^" + indent + "(?! )[^\\n;=]*\\([^\\n;=]*\\)[^\\n;=]*\\{\\n((?s).*?)^" + indent + "\\}$";
            Matcher method = Pattern.compile(text).matcher(program());
            while (method.find()) {
                methods++;
                yes("sixty lines at most: " + method.group().lines().findFirst().orElse(""),
                    method.group(1).lines().count() <= 60);
            }
        }
        int due = 0;
        for (Class<?> type : classes()) {
            for (Method m : type.getDeclaredMethods()) {
                due += m.isSynthetic() ? 0 : 1;
            }
        }
        yes("all " + due + " methods are seen: " + methods, methods >= due);
    }

    public static void main(String[] args) throws ReflectiveOperationException {
        all(RulesTest.class);
    }
}
