import java.io.IOException;
import java.lang.reflect.Constructor;
import java.lang.reflect.Field;
import java.lang.reflect.Method;
import java.lang.reflect.Modifier;
import java.nio.file.Files;
import java.nio.file.Path;
import java.util.ArrayList;
import java.util.HashSet;
import java.util.List;
import java.util.Set;
import java.util.regex.Matcher;
import java.util.regex.Pattern;

/** Those rules of ../shared/LANGUAGE.md that a program can look at, by their numbers. */
public final class LanguageTest {
    private static final Path SOURCE = Path.of("src/main/java/EthernetGates.java");
    private static final Set<String> MAY_IMPORT = Set.of("java.util.ArrayList", "java.util.List", "java.util.Arrays",
            "java.util.Iterator", "java.util.NoSuchElementException");
    private static final Set<String> MAY_THROW = Set.of("IllegalStateException", "IllegalArgumentException",
            "IndexOutOfBoundsException", "ArithmeticException", "UnsupportedOperationException",
            "NoSuchElementException", "RuntimeException");
    private static final Set<Class<?>> MAY_BE_STATIC = Set.of(int.class, long.class, boolean.class, char.class,
            String.class, int[].class, long[].class, char[].class, byte[].class);
    /** What the rules 2, 4, 6, 9, 12 and 13 rule out, and what they bind so closely that the class does without it. */
    private static final String[] RULED_OUT = {
        "->", "::", "\\bfinally\\b", "\\bsynchronized\\b", "\\bassert\\b", "\\btry\\b", "\\bcatch\\b", "\\bpackage\\b",
        "\\bstatic\\s*\\{", "Exact\\b", "System\\.(?!arraycopy\\b)", "\\bThread\\b", "\\bRandom\\b", "\\.random\\b",
        "\\.equals\\b", "\\bhashCode\\b", "\\btoString\\b", "\\bObject\\b", "\\bprotected\\b", "\\bnative\\b",
        "\\bdouble\\b", "\\bfloat\\b", "while \\(true\\)", "for \\(;"
    };
    private static final int MOST_PARAMETERS = 7;
    private static final int MOST_LINES = 60;
    private static final int MOST_CLASSES = 12;
    private static final int MOST_FIELDS = 20;

    public static void main(String[] args) throws IOException {
        Check c = new Check();
        String code = withoutComments(Files.readString(SOURCE));
        List<Class<?>> classes = new ArrayList<>();
        gather(EthernetGates.class, classes);
        namesOfTheFace(c, classes);
        imports(c, code);
        ruledOut(c, code);
        staticFields(c, classes);
        exceptions(c, code);
        sizes(c, classes);
        linesOfMethods(c, code);
        c.end();
    }

    private static String withoutComments(String text) {
        return text.replaceAll("(?s)/\\*.*?\\*/", "").replaceAll("//[^\n]*", "");
    }

    private static void gather(Class<?> from, List<Class<?>> into) {
        into.add(from);
        for (Class<?> inside : from.getDeclaredClasses()) {
            gather(inside, into);
        }
    }

    private static void namesOfTheFace(Check c, List<Class<?>> classes) {
        c.sentence("rule 1: No private method bears the name of a public one");
        Set<String> face = new HashSet<>();
        for (Method m : EthernetGates.class.getDeclaredMethods()) {
            if (Modifier.isPublic(m.getModifiers())) {
                face.add(m.getName());
            }
        }
        c.due("the number of public methods", face.size(), 12);
        for (Class<?> k : classes) {
            for (Method m : k.getDeclaredMethods()) {
                c.isTrue(m.toString(), Modifier.isPublic(m.getModifiers()) || !face.contains(m.getName()));
            }
        }
    }

    private static void imports(Check c, String code) {
        c.sentence("rule 4: The library: only what stands here");
        Matcher m = Pattern.compile("\\bimport\\s+([^;]+);").matcher(code);
        while (m.find()) {
            c.isTrue("import " + m.group(1), MAY_IMPORT.contains(m.group(1)));
        }
        c.isTrue("no name with its package but in an import",
                !Pattern.compile("(?<!import )\\bjava\\.").matcher(code).find());
    }

    private static void ruledOut(Check c, String code) {
        for (String words : RULED_OUT) {
            c.sentence("rules 2, 4, 6, 9, 12, 13");
            c.isTrue("there is no " + words, !Pattern.compile(words).matcher(code).find());
        }
    }

    private static void staticFields(Check c, List<Class<?>> classes) {
        c.sentence("rule 5: Static fields are final: constants");
        for (Class<?> k : classes) {
            for (Field f : k.getDeclaredFields()) {
                if (Modifier.isStatic(f.getModifiers())) {
                    c.isTrue(f.toString(), Modifier.isFinal(f.getModifiers()) && MAY_BE_STATIC.contains(f.getType()));
                }
            }
        }
    }

    private static void exceptions(Check c, String code) {
        c.sentence("rule 6: throw new E() or throw new E(\"a written text\")");
        Matcher any = Pattern.compile("\\bthrow\\b").matcher(code);
        Matcher right = Pattern.compile("\\bthrow new (\\w+)\\((\"[^\"]*\")?\\);").matcher(code);
        int throwing = 0;
        while (any.find()) {
            throwing++;
        }
        int allowed = 0;
        while (right.find()) {
            allowed += MAY_THROW.contains(right.group(1)) ? 1 : 0;
        }
        c.due("the number of such throws", allowed, throwing);
    }

    private static void sizes(Check c, List<Class<?>> classes) {
        c.sentence("rule 11: at most seven parameters, some twelve classes, some twenty fields");
        c.isTrue(classes.size() + " classes", classes.size() <= MOST_CLASSES);
        for (Class<?> k : classes) {
            int fields = 0;
            for (Field f : k.getDeclaredFields()) {
                fields += Modifier.isStatic(f.getModifiers()) ? 0 : 1;
            }
            c.isTrue(fields + " fields of " + k, fields <= MOST_FIELDS);
            for (Method m : k.getDeclaredMethods()) {
                c.isTrue(m.toString(), m.getParameterCount() <= MOST_PARAMETERS);
            }
            for (Constructor<?> made : k.getDeclaredConstructors()) {
                c.isTrue(made.toString(), made.getParameterCount() <= MOST_PARAMETERS);
            }
        }
    }

    // The file is indented by four, so a method's last line is the next brace that stands as deep as its first line.
    private static void linesOfMethods(Check c, String code) {
        c.sentence("rule 11: Methods stay short (some sixty lines)");
        Matcher m = Pattern.compile("(?m)^( +)(?:public|private) [^;={}]*\\{$").matcher(code);
        int methods = 0;
        while (m.find()) {
            if (m.group().contains("(")) {
                methods++;
                int end = code.indexOf("\n" + m.group(1) + "}\n", m.end());
                long lines = code.substring(m.start(), Math.max(m.end(), end)).lines().count() + 1;
                c.isTrue(lines + " lines:" + m.group(), end > 0 && lines <= MOST_LINES);
            }
        }
        c.isTrue("there are methods to look at", methods > 12);
    }
}
