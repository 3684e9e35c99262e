import java.io.IOException;
import java.lang.reflect.Method;
import java.nio.charset.StandardCharsets;
import java.nio.file.Files;
import java.nio.file.Path;
import java.util.Arrays;
import java.util.LinkedHashMap;
import java.util.List;
import java.util.Map;
import java.util.regex.Matcher;
import java.util.regex.Pattern;

/** The words that tests stand for are the document's, and no sentence of its beginning, terms and promises is without a test of its own. */
public final class SaysTest {
    private static final List<Class<?>> KINDS = List.of(
        WholeTest.class, TextBoundaryTest.class, EditBoundaryTest.class, SpanBoundaryTest.class, RowBoundaryTest.class);
    private static final Pattern HEADING = Pattern.compile("(?m)^(?:## (Promise \\d+): .*|## (.*)|(==== \\d)\\.)");
    // A sentence ends with . or ; but not with the .. between two numbers.
    private static final Pattern SENTENCE = Pattern.compile("(?:[^.;]|\\.\\.|[.;](?! |$))+");

    private final Check check = new Check();
    private final Map<String, String> parts = new LinkedHashMap<>();
    private final Map<String, boolean[]> said = new LinkedHashMap<>();

    public static void main(String[] args) throws IOException {
        SaysTest test = new SaysTest();
        test.take(Files.readString(Path.of(args[0]), StandardCharsets.UTF_8));
        test.allWordsAreTheDocuments();
        test.allSentencesAreSaid();
        test.check.end("SaysTest");
    }

    private void take(String document) {
        Matcher m = HEADING.matcher(document);
        String heading = "";
        int from = 0;
        while (m.find()) {
            put(heading, document.substring(from, m.start()));
            heading = m.group(1) != null ? m.group(1) : m.group(2) != null ? m.group(2) : m.group(3);
            from = m.end();
        }
        put(heading, document.substring(from));
        check.due("what it is, terms and promises", parts.keySet().stream().filter(SaysTest::isBinding).count(), 61);
    }

    private static boolean isBinding(String heading) {
        return heading.equals("What it is") || heading.startsWith("====") || heading.startsWith("Promise ");
    }

    private void put(String heading, String text) {
        if (!heading.isEmpty()) {
            String words = inOneLine(text.replaceFirst("\\A\\s*`[^`]*`:", "").replaceAll("```(text)?", ""));
            parts.put(heading, words);
            said.put(heading, new boolean[words.length()]);
        }
    }

    private static String inOneLine(String text) {
        return text.trim().replaceAll("\\s+", " ");
    }

    private void allWordsAreTheDocuments() {
        for (Class<?> kind : KINDS) {
            for (Method test : Cases.testsOf(kind)) {
                for (String says : test.getAnnotation(Says.class).value()) {
                    check.due(kind.getName() + "." + test.getName() + ": the document says <" + says + ">", isOfTheDocument(says), true);
                }
            }
        }
    }

    private boolean isOfTheDocument(String says) {
        int colon = says.indexOf(": ");
        return colon > 0 && mark(says.substring(0, colon), says.substring(colon + 2));
    }

    private boolean mark(String heading, String words) {
        int at = parts.getOrDefault(heading, "").indexOf(words);
        if (at < 0 || words.isEmpty()) {
            return false;
        }
        Arrays.fill(said.get(heading), at, at + words.length(), true);
        return true;
    }

    private void allSentencesAreSaid() {
        for (Map.Entry<String, String> part : parts.entrySet()) {
            Matcher m = SENTENCE.matcher(part.getValue());
            while (isBinding(part.getKey()) && m.find()) {
                check.due("a test stands for " + part.getKey() + ": <" + m.group().trim() + ">", isSaid(part.getKey(), m), true);
            }
        }
    }

    private boolean isSaid(String heading, Matcher sentence) {
        for (int i = sentence.start(); i < sentence.end(); i++) {
            if (said.get(heading)[i]) {
                return true;
            }
        }
        return sentence.group().isBlank();
    }
}
