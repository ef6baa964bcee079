import java.lang.reflect.InvocationTargetException;
import java.lang.reflect.Method;
import java.nio.file.Files;
import java.nio.file.Path;
import java.util.ArrayList;
import java.util.Comparator;
import java.util.List;

/** Runs the tests that name a sentence of the document, and sees that the document has that sentence. */
final class Sentences {
    private static final Path DOCUMENT = Path.of("../shared/DOC.md");

    private Sentences() { }

    static List<Method> testsOf(Class<?> c) {
        List<Method> tests = new ArrayList<>();
        for (Method m : c.getDeclaredMethods()) {
            if (m.isAnnotationPresent(Says.class)) {
                m.setAccessible(true);
                tests.add(m);
            }
        }
        tests.sort(Comparator.comparingInt((Method m) -> m.getAnnotation(Says.class).promise()).thenComparing(Method::getName));
        return tests;
    }

    /** Runs all of a class, or those alone whose names are told. */
    static void run(Class<?> c, String... names) throws Exception {
        String document = document();
        List<String> wanted = List.of(names);
        for (Method m : testsOf(c)) {
            if (!wanted.isEmpty() && !wanted.contains(m.getName())) continue;
            Says says = m.getAnnotation(Says.class);
            Check.begin("promise " + says.promise() + ", \"" + says.sentence() + "\", " + m.getName() + ": ");
            if (!document.isEmpty()) Check.due("the document has the sentence", isSaid(document, says), true);
            try {
                m.invoke(null);
            } catch (InvocationTargetException e) {
                Check.due("threw " + e.getCause(), 1, 0);
            }
        }
        Check.begin("");
    }

    /** The document in one row; nothing if it can't be read here. */
    static String document() throws Exception {
        return Files.isReadable(DOCUMENT) ? plain(Files.readString(DOCUMENT)) : "";
    }

    static String plain(String text) {
        return text.replaceAll("\\s+", " ").trim();
    }

    static String sectionOf(String document, int promise) {
        int from = document.indexOf("## Promise " + promise + ":");
        int to = document.indexOf("## ", from + 3);
        return from < 0 ? "" : document.substring(from, to < 0 ? document.length() : to);
    }

    /** What stands ahead of the promises, the terms among them, holds for all of them. */
    static String termsOf(String document) {
        int to = document.indexOf("## Promise 1:");
        return to < 0 ? document : document.substring(0, to);
    }

    private static boolean isSaid(String document, Says says) {
        String sentence = plain(says.sentence());
        return sectionOf(document, says.promise()).contains(sentence) || termsOf(document).contains(sentence);
    }
}
