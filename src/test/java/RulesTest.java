import java.lang.reflect.Constructor;
import java.lang.reflect.Field;
import java.lang.reflect.Method;
import java.lang.reflect.Modifier;
import java.nio.charset.StandardCharsets;
import java.nio.file.Files;
import java.nio.file.Path;
import java.util.List;
import java.util.Set;
import java.util.TreeSet;

/** The constants, the public face, and those rules of ../shared/LANGUAGE.md that can be seen from outside. */
public final class RulesTest {
    private static final Check CHECK = new Check("RulesTest");
    private static final List<String> FACE = List.of("write(1)", "wipe(0)", "fault(0)", "lay(0)", "device(2)",
            "memory(2)", "own(3)", "cut(2)", "lose(1)", "state(2)", "map(5)", "unmap(2)", "mapped(3)", "gram(5)",
            "clear(1)", "put(3)", "send(0)", "home(2)", "expected(1)", "tell(2)", "take(1)", "fetch(1)", "push(2)",
            "again(1)", "box(2)", "later(1)", "level(0)", "steer(1)", "clock(2)", "apart(0)", "count(1)");

    public static void main(String[] args) throws Exception {
        constants();
        face();
        classesInside();
        source();
        CHECK.finish();
    }

    private static void constants() {
        CHECK.due("BAD", PassingFrames.BAD, -1);
        CHECK.due("NO", PassingFrames.NO, -2);
        CHECK.due("FULL", PassingFrames.FULL, -3);
        CHECK.due("NONE", PassingFrames.NONE, -4);
        CHECK.due("LOST", PassingFrames.LOST, -5);
        CHECK.due("ZERO", PassingFrames.ZERO, 100000000);
    }

    private static void face() {
        Class<?> c = PassingFrames.class;
        CHECK.isTrue("the class is public and final", c.getModifiers() == (Modifier.PUBLIC | Modifier.FINAL));
        Set<String> seen = new TreeSet<>();
        for (Method m : c.getDeclaredMethods()) {
            if (Modifier.isPrivate(m.getModifiers())) {
                continue;
            }
            seen.add(m.getName() + "(" + m.getParameterCount() + ")");
            CHECK.isTrue(m + " is public and answers int",
                    m.getModifiers() == Modifier.PUBLIC && m.getReturnType() == int.class);
        }
        CHECK.isTrue("the methods are those of the face: " + seen, seen.equals(new TreeSet<>(FACE)));
        Constructor<?>[] constructors = c.getDeclaredConstructors();
        CHECK.isTrue("one public constructor", constructors.length == 1 && constructors[0].getParameterCount() == 0
                && constructors[0].getModifiers() == Modifier.PUBLIC);
        int visible = 0;
        for (Field f : c.getDeclaredFields()) {
            visible += Modifier.isPrivate(f.getModifiers()) ? 0 : 1;
        }
        CHECK.due("constants of the face", visible, 6);
        rulesOf(c);
    }

    private static void classesInside() {
        Class<?>[] inside = PassingFrames.class.getDeclaredClasses();
        CHECK.isTrue("at most twelve classes", inside.length + 1 <= 12);
        for (Class<?> c : inside) {
            CHECK.isTrue(c + " is static, not public, not protected", Modifier.isStatic(c.getModifiers())
                    && !Modifier.isPublic(c.getModifiers()) && !Modifier.isProtected(c.getModifiers()));
            CHECK.isTrue(c + " has no class inside", c.getDeclaredClasses().length == 0);
            rulesOf(c);
        }
    }

    private static void rulesOf(Class<?> c) {
        int fields = 0;
        for (Field f : c.getDeclaredFields()) {
            int modifiers = f.getModifiers();
            fields += Modifier.isStatic(modifiers) ? 0 : 1;
            CHECK.isTrue(f + " is final if it is static", !Modifier.isStatic(modifiers) || Modifier.isFinal(modifiers));
        }
        CHECK.isTrue(c + " has at most twenty fields", fields <= 20);
        for (Method m : c.getDeclaredMethods()) {
            CHECK.isTrue(m + " has at most seven parameters", m.getParameterCount() <= 7);
            boolean bearsName = FACE.stream().anyMatch(f -> f.startsWith(m.getName() + "("));
            CHECK.isTrue(m + " bears no name of the face", c == PassingFrames.class
                    ? bearsName != Modifier.isPrivate(m.getModifiers()) : !bearsName);
        }
    }

    private static void source() throws Exception {
        Path path = Path.of("src/main/java/PassingFrames.java");
        String code = Files.readString(path, StandardCharsets.US_ASCII).replaceAll("(?s)/\\*.*?\\*/|//[^\n]*", "");
        String texts = code.replaceAll("\"[^\"]*\"|'[^']*'", "0");
        for (String word : List.of("try", "catch", "throw", "throws", "assert", "synchronized", "Object", "Exception",
                "protected", "package", "while", "System.out", "double", "float", "instanceof")) {
            CHECK.isTrue("no " + word, !texts.matches("(?s).*\\b" + word.replace(".", "\\.") + "\\b.*"));
        }
        CHECK.isTrue("no lambda, no method reference", !texts.contains("->") && !texts.contains("::"));
        int imports = texts.split("\nimport |^import ", -1).length - 1;
        CHECK.due("imports", imports, 1);
        CHECK.isTrue("of Arrays alone", texts.contains("import java.util.Arrays;"));
        methodLengths(code);
    }

    /** A method begins with a brace at the end of a line that has an opening parenthesis, 4 or 8 blanks in. */
    private static void methodLengths(String code) {
        String[] lines = code.split("\n");
        for (int i = 0; i < lines.length; i++) {
            String line = lines[i];
            if (!line.matches("( {4}| {8})\\w.*\\(.*\\) \\{") || line.matches(" +(if|for|switch|while|else).*")) {
                continue;
            }
            String close = line.replaceAll("\\S.*", "") + "}";
            int end = i;
            while (end < lines.length && !lines[end].equals(close)) {
                end++;
            }
            CHECK.isTrue("at most sixty lines:" + line, end - i < 60);
        }
    }
}
