import java.io.IOException;
import java.lang.reflect.Executable;
import java.lang.reflect.Field;
import java.lang.reflect.Member;
import java.lang.reflect.Method;
import java.lang.reflect.Modifier;
import java.nio.file.Files;
import java.nio.file.Path;
import java.util.Arrays;
import java.util.Set;
import java.util.TreeSet;
import java.util.stream.Collectors;

/** The public face, word for word, and some rules of LANGUAGE.md that can be seen from outside. */
public final class FaceTest {
    private static final String[] FACE = {
        "new(int)",
        "int symbol(int, int) throws IllegalArgumentException, UnsupportedOperationException",
        "boolean put(int, int, int, boolean) throws IndexOutOfBoundsException",
        "int row(int, int, int) throws IndexOutOfBoundsException",
        "boolean at(int, int, int) throws IndexOutOfBoundsException",
        "int refined(int, int, int, int) throws IndexOutOfBoundsException, IllegalArgumentException, IllegalStateException",
        "boolean export(int, boolean) throws IndexOutOfBoundsException",
        "int write()",
        "int byteAt(int) throws IndexOutOfBoundsException",
        "int feed(int) throws IllegalArgumentException, UnsupportedOperationException",
        "int pass() throws UnsupportedOperationException",
        "int read()",
        "int told(int, int) throws IndexOutOfBoundsException, IllegalArgumentException",
        "int likeness(int, int) throws IndexOutOfBoundsException",
        "int classes(int) throws IllegalArgumentException",
        "int cls(int) throws IndexOutOfBoundsException",
        "int count(int)",
        "void clear()",
        "int NONE",
    };

    public static void main(String[] args) throws IOException {
        face();
        classesInside();
        source();
        Due.end();
    }

    private static void face() {
        Class<?> c = SymbolDictionaries.class;
        Set<String> got = new TreeSet<>();
        Arrays.stream(c.getDeclaredConstructors()).filter(FaceTest::seen).forEach(e -> got.add("new" + rest(e)));
        for (Method method : c.getDeclaredMethods()) {
            if (seen(method)) {
                got.add(method.getReturnType().getSimpleName() + " " + method.getName() + rest(method));
            }
        }
        for (Field field : c.getDeclaredFields()) {
            if (seen(field)) {
                got.add(field.getType().getSimpleName() + " " + field.getName());
            }
        }
        Due.same("the face", String.join("\n", got), String.join("\n", new TreeSet<>(Arrays.asList(FACE))));
        Due.is("the class is public and final", Modifier.PUBLIC | Modifier.FINAL, c::getModifiers);
        Due.is("NONE", -1, () -> SymbolDictionaries.NONE);
    }

    private static boolean seen(Member member) {
        return !Modifier.isPrivate(member.getModifiers()) && !member.isSynthetic();
    }

    private static String rest(Executable e) {
        String parameters = names(e.getParameterTypes());
        String thrown = names(e.getExceptionTypes());
        return "(" + parameters + ")" + (thrown.isEmpty() ? "" : " throws " + thrown);
    }

    private static String names(Class<?>[] types) {
        return Arrays.stream(types).map(Class::getSimpleName).collect(Collectors.joining(", "));
    }

    private static void classesInside() {
        Class<?>[] inside = SymbolDictionaries.class.getDeclaredClasses();
        Due.is("some twelve classes", true, () -> inside.length < 13);
        for (Class<?> c : inside) {
            Due.is(c.getSimpleName() + " is public or protected", 0, () -> c.getModifiers() & (Modifier.PUBLIC | Modifier.PROTECTED));
            for (Field field : c.getDeclaredFields()) {
                boolean changing = Modifier.isStatic(field.getModifiers()) && !Modifier.isFinal(field.getModifiers());
                Due.is(field.getName() + " is static and not final", 0, () -> Due.of(changing));
            }
        }
    }

    private static void source() throws IOException {
        String text = Files.readString(Path.of("src/main/java/SymbolDictionaries.java"));
        String code = text.replaceAll("(?s)/\\*.*?\\*/", "").replaceAll("//.*", "").replaceAll("\"[^\"]*\"", "\"\"");
        String[] never = {"finally", "assert", "synchronized", "package", "Random"};
        for (String word : never) {
            Due.is("the source has " + word, 0, () -> Due.of(code.matches("(?s).*(?<!\\w)" + word + "(?!\\w).*")));
        }
        Due.is("the source has a lambda or a method reference", 0, () -> Due.of(code.contains("->") || code.contains("::")));
        Due.is("the source has a function that ends in Exact", 0, () -> Due.of(code.contains("Exact(")));
        Set<String> listed = Set.of("ArrayList", "List", "Arrays", "Iterator", "NoSuchElementException");
        code.lines().filter(line -> line.startsWith("import ")).forEach(line -> {
            String name = line.replaceAll("import java\\.util\\.(\\w+);.*", "$1");
            Due.is("is listed: " + line, true, () -> listed.contains(name));
        });
    }
}
