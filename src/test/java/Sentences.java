import java.io.IOException;
import java.io.UncheckedIOException;
import java.lang.reflect.InvocationTargetException;
import java.lang.reflect.Method;
import java.nio.file.Files;
import java.nio.file.Path;
import java.util.Arrays;
import java.util.Comparator;

/** Runs every method of a class that stands beside a sentence of the document, each with a new scheduler. */
final class Sentences {
    private static final Path DOCUMENT = Path.of("../shared/DOC.md");

    private Sentences() {
    }

    static void test(Class<?> tests) {
        Checks checks = new Checks();
        String document = read(DOCUMENT);
        if (document.isEmpty()) {
            System.out.println("the quotations are not compared, for there is no " + DOCUMENT);
        }
        Method[] methods = tests.getDeclaredMethods();
        Arrays.sort(methods, Comparator.comparing(Method::getName));
        int made = 0;
        for (Method method : methods) {
            Sentence sentence = method.getAnnotation(Sentence.class);
            if (sentence != null) {
                String name = method.getName() + " (" + sentence.in() + ": \"" + sentence.says() + "\")";
                boolean quotes = document.isEmpty() || stands(sentence, document);
                checks.expect(name + " quotes the document", "" + quotes, "true");
                run(method, name, checks);
                made++;
            }
        }
        checks.expect("there are tests in " + tests.getName(), "" + (made > 0), "true");
        System.out.println(made + " sentences in " + tests.getName());
        checks.finish();
    }

    private static void run(Method method, String name, Checks checks) {
        try {
            method.invoke(null, new Trial(checks, name));
        } catch (InvocationTargetException thrown) {
            checks.expect(name, "with a throw that was not due, " + thrown.getCause(), "without it");
        } catch (IllegalAccessException thrown) {
            throw new IllegalStateException(thrown);
        }
    }

    /** A section with a heading ends before the next heading, one without a heading at the next empty line. */
    private static boolean stands(Sentence sentence, String document) {
        String in = sentence.in();
        int heading = document.indexOf("\n## " + in + (in.startsWith("Promise") ? ":" : "\n"));
        int start = heading >= 0 ? heading : document.indexOf("\n" + in + ". ");
        int end = document.indexOf(heading >= 0 ? "\n## " : "\n\n", start + 1);
        return start >= 0 && end >= 0
            && inOneLine(document.substring(start, end)).contains(inOneLine(sentence.says()));
    }

    private static String inOneLine(String text) {
        return text.replace("`", "").replaceAll("\\s+", " ");
    }

    private static String read(Path path) {
        try {
            return Files.exists(path) ? Files.readString(path) : "";
        } catch (IOException thrown) {
            throw new UncheckedIOException(thrown);
        }
    }
}
