import java.io.IOException;
import java.lang.reflect.InvocationTargetException;
import java.lang.reflect.Method;
import java.nio.charset.StandardCharsets;
import java.nio.file.Files;
import java.nio.file.Path;
import java.util.ArrayList;
import java.util.Comparator;
import java.util.HashSet;
import java.util.List;
import java.util.Set;

/**
 * Runs tests of single sentences. Such a test is a static method whose name begins with promiseNN_ or termN_ and which
 * first says its sentence in the document's own words, which are looked up in the document.
 */
final class Edges {
    private static final String[] TERMS = {"I", "II", "III", "IV", "V", "VI"};
    private static final Path DOCUMENT = Path.of("../shared/DOC.md");

    private final Check check;
    private final String document;
    private final Set<String> headings = new HashSet<>();

    Edges(Check check) throws IOException {
        this.check = check;
        boolean isThere = Files.exists(DOCUMENT);
        document = isThere ? "\n" + Files.readString(DOCUMENT, StandardCharsets.UTF_8) : "";
        if (!isThere) {
            System.out.println(DOCUMENT + " isn't there: the sentences aren't looked up in it");
        }
    }

    void run(Class<?> tests) throws IllegalAccessException {
        List<Method> methods = new ArrayList<>();
        for (Method m : tests.getDeclaredMethods()) {
            if (m.getName().matches("(promise\\d\\d|term\\d)_\\w+")) {
                methods.add(m);
            }
        }
        methods.sort(Comparator.comparing(Method::getName));
        for (Method m : methods) {
            m.setAccessible(true);
            run(m);
        }
    }

    private void run(Method m) throws IllegalAccessException {
        String heading = m.getName().substring(0, m.getName().indexOf('_'));
        headings.add(heading);
        check.promise(m.getName());
        try {
            m.invoke(null);
        } catch (InvocationTargetException e) {
            check.wrong("throws " + e.getCause());
        }
        String sentence = check.takeSentence();
        check.yes(m.getName() + " says a sentence", !sentence.isEmpty());
        check.yes("\"" + sentence + "\" stands in the document",
            document.isEmpty() || sectionOf(heading).contains(sentence));
    }

    /** The document's text under a heading, its lines joined. */
    private String sectionOf(String heading) {
        String start;
        String end;
        if (heading.startsWith("term")) {
            int n = Integer.parseInt(heading.substring(4));
            start = "\n" + TERMS[n - 1] + ". ";
            end = n < TERMS.length ? "\n" + TERMS[n] + ". " : "\nThe constants";
        } else {
            start = "\n## Promise " + Integer.parseInt(heading.substring(7)) + ": ";
            end = "\n## ";
        }
        int from = document.indexOf(start);
        if (from < 0) {
            return "";
        }
        int to = document.indexOf(end, from + 1);
        return document.substring(from, to < 0 ? document.length() : to).replace('\n', ' ');
    }

    /** That every term and promise was tested. */
    void allWereRun(int promises) {
        check.promise("the sentences");
        for (int n = 1; n <= promises; n++) {
            String heading = (n < 10 ? "promise0" : "promise") + n;
            check.yes(heading + " was tested", headings.contains(heading));
        }
        for (int n = 1; n <= TERMS.length; n++) {
            check.yes("term" + n + " was tested", headings.contains("term" + n));
        }
    }
}
