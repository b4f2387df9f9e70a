import java.io.IOException;
import java.lang.reflect.Method;
import java.lang.reflect.Modifier;
import java.nio.file.Files;
import java.nio.file.Path;
import java.util.Arrays;
import java.util.regex.Matcher;
import java.util.regex.Pattern;

/** README.md tells what the class answers, and the edge tests quote the document. Runs from the project's directory. */
public final class PagesTest {
    private static final Path README = Path.of("README.md");
    private static final Path DOCUMENT = Path.of("../shared/DOC.md");
    private static final Path TESTS = Path.of("src/test/java");

    private static Method methodOf(String name) {
        for (Method method : BoxBindings.class.getDeclaredMethods()) {
            if (Modifier.isPublic(method.getModifiers()) && method.getName().equals(name)) {
                return method;
            }
        }
        throw new IllegalStateException("no call " + name);
    }

    private static int answer(BoxBindings box, String name, String numbers) throws ReflectiveOperationException {
        Object[] values = numbers.isEmpty() ? new Object[0]
            : Arrays.stream(numbers.split(", ")).map(Integer::valueOf).toArray();
        return (Integer) methodOf(name).invoke(box, values);
    }

    private static String inOneLine(String text) {
        return text.replaceAll("\\s+", " ");
    }

    static void readmeAnswers() throws IOException, ReflectiveOperationException {
        Checks.says("README.md says how to use the class");
        BoxBindings box = new BoxBindings();
        int calls = 0;
        for (String line : Files.readAllLines(README)) {
            Matcher call = Pattern.compile("box\\.(\\w+)\\(([^)]*)\\); +// (-?\\d+): .+").matcher(line);
            if (call.matches()) {
                Checks.due(line, answer(box, call.group(1), call.group(2)), Integer.parseInt(call.group(3)));
                calls++;
            } else {
                Checks.holds("has an answer to compare: " + line, !line.startsWith("box."));
            }
        }
        Checks.holds("README.md has calls", calls > 0);
    }

    static void readmeNamesEachCall() throws IOException {
        Checks.says("README.md says how to use the class");
        String text = Files.readString(README);
        for (Method method : BoxBindings.class.getDeclaredMethods()) {
            if (Modifier.isPublic(method.getModifiers())) {
                Checks.holds("README.md names " + method, text.contains("`" + method.getName() + "("));
            }
        }
    }

    static void edgeTestsQuoteTheDocument() throws IOException {
        String document = inOneLine(Files.readString(DOCUMENT));
        for (String name : new String[] {"TermsEdgesTest.java", "PromiseEdgesTest.java"}) {
            String test = Files.readString(TESTS.resolve(name));
            Matcher quote = Pattern.compile("Checks\\.says\\(\"(.*?)\"\\);", Pattern.DOTALL).matcher(test);
            int quotes = 0;
            while (quote.find()) {
                String words = inOneLine(quote.group(1).replaceAll("\"\\s*\\+\\s*\"", ""));
                Checks.says(words);
                Checks.holds("words of the document, in " + name, document.contains(words));
                quotes++;
            }
            Checks.holds(name + " has quotes", quotes > 0);
        }
    }

    public static void main(String[] args) {
        Checks.runAll(PagesTest.class);
    }
}
