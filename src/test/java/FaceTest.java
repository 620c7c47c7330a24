import java.io.IOException;
import java.lang.reflect.Constructor;
import java.lang.reflect.Field;
import java.lang.reflect.Method;
import java.lang.reflect.Modifier;
import java.nio.file.Files;
import java.nio.file.Path;
import java.util.ArrayList;
import java.util.Arrays;
import java.util.List;
import java.util.Set;
import java.util.TreeSet;
import java.util.regex.Matcher;
import java.util.regex.Pattern;
import java.util.stream.Collectors;

/** The public face, word for word, and those rules of ../shared/LANGUAGE.md that can be told from outside. */
public final class FaceTest {
    private static final Path DOCUMENT = Path.of("../shared/DOC.md");
    private static final Path SOURCE = Path.of("src/main/java/NumberingTree.java");
    private static final List<String> OUTSIDE_THE_RULES = List.of("->", "::", "catch", "finally", "synchronized",
            "assert", "instanceof", "protected", "native", "volatile", "transient", "strictfp", "System", "Float",
            "Double", "Object", "String", "Arrays", "ArrayList", "List");

    public static void main(String[] args) throws IOException {
        face();
        nothingElse();
        classesInside();
        source();
        Check.end("FaceTest");
    }

    private static void face() throws IOException {
        Matcher block = Pattern.compile("```java\n(.*?)```", Pattern.DOTALL).matcher(Files.readString(DOCUMENT));
        Check.same("face in the document", block.find(), true);
        Set<String> due = new TreeSet<>();
        for (String line : block.group(1).split("\n")) {
            if (line.startsWith("    public ")) {
                due.add(line.strip().replaceAll("(int|char|boolean) \\w+(?=[,)])", "$1").replace(";", ""));
            }
        }
        Set<String> got = new TreeSet<>();
        for (Method method : NumberingTree.class.getDeclaredMethods()) {
            if (Modifier.isPublic(method.getModifiers())) {
                got.add(told(method));
            }
        }
        got.add("public NumberingTree()");
        Check.same("face", got, due);
        Check.same("methods", got.size(), 41);
    }

    private static String told(Method method) {
        String thrown = names(method.getExceptionTypes());
        return "public " + method.getReturnType().getSimpleName() + " " + method.getName() + "("
                + names(method.getParameterTypes()) + ")" + (thrown.isEmpty() ? "" : " throws " + thrown);
    }

    private static String names(Class<?>[] types) {
        return Arrays.stream(types).map(Class::getSimpleName).collect(Collectors.joining(", "));
    }

    private static void nothingElse() {
        Class<?> face = NumberingTree.class;
        Check.same("class is public and final", face.getModifiers(), Modifier.PUBLIC | Modifier.FINAL);
        for (Field field : face.getDeclaredFields()) {
            Check.same(field + " is private", Modifier.isPrivate(field.getModifiers()), true);
            Check.same(field + " is final or an object's own",
                    Modifier.isFinal(field.getModifiers()) || !Modifier.isStatic(field.getModifiers()), true);
        }
        for (Constructor<?> constructor : face.getDeclaredConstructors()) {
            Check.same(constructor + " is public", Modifier.isPublic(constructor.getModifiers()), true);
        }
        for (Method method : face.getDeclaredMethods()) {
            boolean isPublic = Modifier.isPublic(method.getModifiers());
            Check.same(method + " is public or private", isPublic || Modifier.isPrivate(method.getModifiers()), true);
            Check.same(method + " bears a public name", publicNames().contains(method.getName()), isPublic);
            Check.same(method + " is static in public", isPublic && Modifier.isStatic(method.getModifiers()), false);
        }
    }

    private static void classesInside() {
        Class<?>[] inside = NumberingTree.class.getDeclaredClasses();
        Check.same("at most twelve classes", inside.length < 12, true);
        for (Class<?> one : inside) {
            Check.same(one + " is static", Modifier.isStatic(one.getModifiers()), true);
            Check.same(one + " is not public", Modifier.isPublic(one.getModifiers()), false);
            Check.same(one + " has at most twenty fields", one.getDeclaredFields().length <= 20, true);
            for (Method method : one.getDeclaredMethods()) {
                Check.same(method + " bears a public name", publicNames().contains(method.getName()), false);
                Check.same(method + " has at most seven parameters", method.getParameterCount() <= 7, true);
            }
        }
    }

    private static Set<String> publicNames() {
        return Arrays.stream(NumberingTree.class.getMethods()).filter(m -> m.getDeclaringClass() == NumberingTree.class)
                .map(Method::getName).collect(Collectors.toSet());
    }

    /** Comments are passed over. An array's cells may be touched only where the index was just tested. */
    private static void source() throws IOException {
        String code = Files.readString(SOURCE).replaceAll("(?s)/\\*.*?\\*/", "").replaceAll("//.*", "");
        List<String> imports = new ArrayList<>();
        for (String line : code.split("\n")) {
            if (line.startsWith("import ")) {
                imports.add(line);
            }
            Check.same("a static field that can change: " + line,
                    line.matches("\\s*private static (?!final)\\w+ \\w+( =.*)?;"), false);
        }
        Check.same("imports", imports, List.of("import java.util.NoSuchElementException;"));
        for (String word : OUTSIDE_THE_RULES) {
            String pattern = Character.isLetter(word.charAt(0)) ? "\\b" + word + "\\b" : word;
            Check.same("'" + word + "' in the source", Pattern.compile(pattern).matcher(code).find(), false);
        }
        List<String> touched = new ArrayList<>();
        Matcher cell = Pattern.compile("\\w+\\[\\w+[^\\]]*\\]").matcher(code);
        while (cell.find()) {
            touched.add(cell.group());
        }
        Check.same("cells and lengths of arrays", touched, List.of("int[length > 0 ? length : 0]",
                "cells[index]", "cells[index]", "char[ROOM]", "signs[index]", "signs[length]",
                "signs[index]"));
        Check.same("divisors", Pattern.compile("[/%] (?!10\\b|26\\b|1000\\b|100\\b|5\\b|\\(float\\)|\\(double\\))")
                .matcher(code).find(), false);
    }
}
