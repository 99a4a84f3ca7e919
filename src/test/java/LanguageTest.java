import java.io.IOException;
import java.lang.reflect.Constructor;
import java.lang.reflect.Executable;
import java.lang.reflect.Field;
import java.lang.reflect.Method;
import java.lang.reflect.Modifier;
import java.nio.file.Files;
import java.nio.file.Path;
import java.util.ArrayList;
import java.util.Arrays;
import java.util.List;
import java.util.Set;
import java.util.TreeSet;
import java.util.regex.Matcher;
import java.util.regex.Pattern;
import java.util.stream.Collectors;

/** The rules of LANGUAGE.md that a look at the class and its text can tell; they stand under the rules' numbers. */
public final class LanguageTest {
    private static final Check check = new Check();
    private static final Set<String> IMPORTS = Set.of("java.util.Arrays", "java.util.ArrayList", "java.util.List",
            "java.util.Iterator");

    public static void main(String[] args) throws IOException {
        String source = Files.readString(Path.of("src/main/java/HelpDesk.java"));
        face(Files.readString(Path.of("../shared/DOC.md")));
        List<Class<?>> classes = new ArrayList<>(List.of(HelpDesk.class));
        classes.addAll(Arrays.asList(HelpDesk.class.getDeclaredClasses()));
        rule(11, "at most twelve classes", classes.size() <= 12);
        for (Class<?> c : classes) {
            shape(c);
        }
        words(source);
        lengths(source);
        check.finish();
    }

    private static void rule(int number, String what, boolean holds) {
        check.due(number, "rule " + number + " of LANGUAGE.md: " + what, holds, true);
    }

    private static void face(String document) {
        Set<String> due = new TreeSet<>();
        Matcher m = Pattern.compile("(?m)^    public (?:(\\w+) )?(\\w+)\\((.*)\\);$").matcher(document);
        while (m.find()) {
            String types = Arrays.stream(m.group(3).split(", ")).map(p -> p.split(" ")[0])
                    .collect(Collectors.joining(","));
            due.add((m.group(1) == null ? "" : m.group(1) + " ") + m.group(2) + "(" + types + ")");
        }
        rule(1, "the document has 60 members", due.size() == 60);
        Set<String> got = new TreeSet<>();
        for (Constructor<?> c : HelpDesk.class.getDeclaredConstructors()) {
            got.add("HelpDesk(" + types(c) + ")");
        }
        for (Method method : HelpDesk.class.getDeclaredMethods()) {
            if (!Modifier.isPrivate(method.getModifiers())) {
                got.add(method.getReturnType() + " " + method.getName() + "(" + types(method) + ")");
                rule(1, method.getName() + " is public", Modifier.isPublic(method.getModifiers())
                        && !Modifier.isStatic(method.getModifiers()));
            }
        }
        rule(1, "the face " + got + " is " + due, got.equals(due));
        int constants = 0;
        for (Field field : HelpDesk.class.getDeclaredFields()) {
            constants += Modifier.isPublic(field.getModifiers()) ? 1 : 0;
            rule(1, field.getName() + " is public or private",
                    (field.getModifiers() & (Modifier.PUBLIC | Modifier.PRIVATE)) != 0);
        }
        rule(1, "seven constants", constants == 7);
        rule(1, "a final class", Modifier.isFinal(HelpDesk.class.getModifiers()));
    }

    private static String types(Executable e) {
        return Arrays.stream(e.getParameterTypes()).map(Class::getName).collect(Collectors.joining(","));
    }

    private static void shape(Class<?> c) {
        Set<String> face = Arrays.stream(HelpDesk.class.getDeclaredMethods())
                .filter(m -> Modifier.isPublic(m.getModifiers())).map(Method::getName).collect(Collectors.toSet());
        if (c != HelpDesk.class) {
            rule(2, c + " is static", Modifier.isStatic(c.getModifiers()));
            rule(2, c + " has no class inside", c.getDeclaredClasses().length == 0);
            rule(1, c + " is private or package-visible",
                    (c.getModifiers() & (Modifier.PUBLIC | Modifier.PROTECTED)) == 0);
        }
        int fields = 0;
        for (Field field : c.getDeclaredFields()) {
            boolean isStatic = Modifier.isStatic(field.getModifiers());
            fields += isStatic ? 0 : 1;
            rule(5, field + " is final if static", !isStatic || Modifier.isFinal(field.getModifiers()));
        }
        rule(11, c + " has at most twenty fields", fields <= 20);
        for (Method method : c.getDeclaredMethods()) {
            rule(11, method + " has at most seven parameters", method.getParameterCount() <= 7);
            rule(1, method + " bears no public name", Modifier.isPublic(method.getModifiers())
                    || !face.contains(method.getName()));
            rule(6, method + " is none of Object's", !Set.of("equals", "hashCode", "toString")
                    .contains(method.getName()));
        }
    }

    private static void words(String source) {
        String code = source.replaceAll("(?s)/\\*.*?\\*/", " ").replaceAll("//[^\n]*", " ")
                .replaceAll("\"[^\"\n]*\"", "TEXT").replaceAll("'\\\\?.'", "SIGN");
        for (String word : new String[] {"throw", "throws", "try", "catch", "synchronized", "assert", "package",
            "protected", "native", "volatile", "var", "instanceof", "yield"}) {
            rule(6, "no " + word, !Pattern.compile("\\b" + word + "\\b").matcher(code).find());
        }
        rule(2, "no lambda, no method reference", !code.contains("->") && !code.contains("::"));
        rule(4, "no text is joined by +", !Pattern.compile("TEXT\\s*\\+|\\+\\s*TEXT").matcher(code).find());
        rule(5, "no static initialiser block", !Pattern.compile("\\bstatic\\s*\\{").matcher(code).find());
        rule(3, "plain signs alone", source.chars().allMatch(sign -> sign == '\n' || sign >= 32 && sign < 127));
        Matcher m = Pattern.compile("(?m)^import (.*);$").matcher(source);
        while (m.find()) {
            rule(4, "import " + m.group(1), IMPORTS.contains(m.group(1)));
        }
    }

    /** A method is told by a line that ends with its bracket and by the line that closes it at the same depth. */
    private static void lengths(String source) {
        Matcher m = Pattern.compile("(?ms)^( {4}| {8})(\\w[^\n;=]*\\([^;{]*\\)) \\{\n.*?^\\1\\}$").matcher(source);
        int methods = 0;
        while (m.find()) {
            methods++;
            rule(11, m.group(2) + " is short", m.group().split("\n").length <= 60);
        }
        rule(11, "the methods are found", methods > 100);
    }
}
