import java.io.IOException;
import java.lang.reflect.Constructor;
import java.lang.reflect.Field;
import java.lang.reflect.Method;
import java.lang.reflect.Modifier;
import java.nio.file.Files;
import java.nio.file.Path;
import java.util.ArrayList;
import java.util.Arrays;
import java.util.List;
import java.util.TreeSet;
import java.util.regex.Pattern;

/** The public face, and what of the rules of LANGUAGE.md can be seen by reflection or in the text of the class. */
public final class FaceTest {
    private static final String[] FACE = {
        "int append(int) throws IllegalArgumentException, IllegalStateException",
        "int execute() throws IllegalArgumentException, IllegalStateException",
        "int errorPosition()",
        "int program(int, int) throws IndexOutOfBoundsException",
        "int reset()",
        "int start(int) throws IndexOutOfBoundsException, IllegalStateException",
        "int cancel(int) throws IndexOutOfBoundsException",
        "int run(int) throws IllegalArgumentException",
        "int next()",
        "int task(int, int) throws IndexOutOfBoundsException, IllegalArgumentException",
        "int scope(int, int) throws IndexOutOfBoundsException, IllegalArgumentException",
        "int failure(int, int, int) throws IndexOutOfBoundsException, IllegalArgumentException, NoSuchElementException",
        "int ready(int) throws NoSuchElementException",
        "int ended(int) throws NoSuchElementException",
        "boolean isAbove(int, int) throws IndexOutOfBoundsException",
        "int scopeOf(int, int) throws IndexOutOfBoundsException",
        "int channel(int, int) throws IndexOutOfBoundsException, IllegalArgumentException",
        "int content(int, int) throws IndexOutOfBoundsException, NoSuchElementException",
        "int count(int) throws IllegalArgumentException",
        "int save()",
        "int restore() throws IllegalStateException",
    };
    private static final String[] BANNED = {
        "try", "catch", "synchronized", "assert", "->", "::", "static {", "protected", "hashCode", "toString",
        "System.nanoTime", "System.currentTimeMillis", "Random", "Thread", "double", "float", "\" +", "+ \"",
    };
    private static final int LONGEST_METHOD = 60;

    private static final Checks CHECKS = new Checks();

    public static void main(String[] args) throws IOException {
        publicFace();
        members();
        classesInside();
        String source = Files.readString(Path.of("src/main/java/CoroutineScheduler.java"));
        bannedWords(withoutComments(source));
        throwsOnlyInFace(source);
        methodLengths(source);
        CHECKS.finish();
    }

    private static void publicFace() {
        int modifiers = CoroutineScheduler.class.getModifiers();
        CHECKS.expect("class is", Modifier.toString(modifiers), "public final");
        TreeSet<String> got = new TreeSet<>();
        for (Method method : CoroutineScheduler.class.getDeclaredMethods()) {
            if (Modifier.isPublic(method.getModifiers())) {
                got.add(describe(method));
            }
        }
        CHECKS.expect("public methods", got.toString(), new TreeSet<>(Arrays.asList(FACE)).toString());
        Constructor<?>[] constructors = CoroutineScheduler.class.getDeclaredConstructors();
        CHECKS.expect("constructors", Arrays.toString(constructors), "[public CoroutineScheduler()]");
    }

    private static String describe(Method method) {
        List<String> parameters = new ArrayList<>();
        for (Class<?> type : method.getParameterTypes()) {
            parameters.add(type.getSimpleName());
        }
        List<String> thrown = new ArrayList<>();
        for (Class<?> type : method.getExceptionTypes()) {
            thrown.add(type.getSimpleName());
        }
        return method.getReturnType().getSimpleName() + " " + method.getName() + "("
            + String.join(", ", parameters) + ")" + (thrown.isEmpty() ? "" : " throws " + String.join(", ", thrown));
    }

    private static void members() {
        for (Method method : CoroutineScheduler.class.getDeclaredMethods()) {
            boolean fits = Modifier.isPublic(method.getModifiers()) || Modifier.isPrivate(method.getModifiers());
            CHECKS.expect(method.getName() + " is public or private", "" + fits, "true");
        }
        for (Field field : CoroutineScheduler.class.getDeclaredFields()) {
            CHECKS.expect(field + " is private", "" + Modifier.isPrivate(field.getModifiers()), "true");
        }
        finalStatics(CoroutineScheduler.class);
    }

    private static void finalStatics(Class<?> type) {
        for (Field field : type.getDeclaredFields()) {
            boolean fits = !Modifier.isStatic(field.getModifiers()) || Modifier.isFinal(field.getModifiers());
            CHECKS.expect(field + " is no static variable", "" + fits, "true");
        }
    }

    private static void classesInside() {
        TreeSet<String> face = new TreeSet<>();
        for (Method method : CoroutineScheduler.class.getMethods()) {
            face.add(method.getName());
        }
        Class<?>[] inside = CoroutineScheduler.class.getDeclaredClasses();
        CHECKS.expect("at most twelve classes", "" + (inside.length + 1 <= 12), "true");
        for (Class<?> type : inside) {
            CHECKS.expect(type + " is static", "" + Modifier.isStatic(type.getModifiers()), "true");
            CHECKS.expect(type + " is not public", "" + Modifier.isPublic(type.getModifiers()), "false");
            CHECKS.expect(type + " has few fields", "" + (type.getDeclaredFields().length <= 20), "true");
            finalStatics(type);
            for (Method method : type.getDeclaredMethods()) {
                CHECKS.expect(method + " has a name of its own", "" + face.contains(method.getName()), "false");
                CHECKS.expect(method + " has few parameters", "" + (method.getParameterCount() <= 7), "true");
            }
        }
    }

    private static String withoutComments(String source) {
        return source.replaceAll("(?s)/\\*.*?\\*/", "").replaceAll("//[^\n]*", "");
    }

    private static void bannedWords(String code) {
        for (String banned : BANNED) {
            boolean word = Character.isLetter(banned.charAt(0));
            Pattern pattern = Pattern.compile(word ? "\\b" + Pattern.quote(banned) + "(?!\\w)" : Pattern.quote(banned));
            CHECKS.expect("use of " + banned, "" + pattern.matcher(code).find(), "false");
        }
        long imports = code.lines().filter(line -> line.startsWith("import ")).count();
        CHECKS.expect("imports", "" + imports, "1");
        boolean ascii = code.chars().allMatch(c -> c == '\n' || c >= 32 && c < 127);
        CHECKS.expect("signs of the file are from 32 to 126", "" + ascii, "true");
    }

    /** Everything that throws stands in the face, before the first class inside. */
    private static void throwsOnlyInFace(String source) {
        int face = source.indexOf("private static final class");
        CHECKS.expect("throw inside", "" + source.substring(face).contains("throw "), "false");
    }

    /** Members begin at an indent of 4 or 8, and end with a brace at the same indent. */
    private static void methodLengths(String source) {
        String[] lines = source.split("\n");
        for (int start = 0; start < lines.length; start++) {
            String line = lines[start];
            String indent = line.startsWith("        ") ? "        " : "    ";
            if (!line.matches(indent + "\\S.*\\{") || line.contains(" class ")) {
                continue;
            }
            int end = start + 1;
            while (end < lines.length && !lines[end].startsWith(indent + "}")) {
                end++;
            }
            boolean fits = end - start + 1 <= LONGEST_METHOD;
            CHECKS.expect("line " + (start + 1) + " begins a short method", "" + fits, "true");
        }
    }
}
