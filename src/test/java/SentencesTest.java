import java.io.IOException;
import java.lang.reflect.Method;
import java.nio.file.Files;
import java.nio.file.Path;
import java.util.ArrayList;
import java.util.List;
import java.util.Map;
import java.util.TreeMap;
import java.util.regex.Matcher;
import java.util.regex.Pattern;

/** Each sentence of the promises and of their terms is told, word for word, by a test that is named after its promise. */
public final class SentencesTest extends Checks {
    private static final int PROMISES = 42;
    private static final Class<?>[] TESTS = {Boundaries01To06Test.class, Boundaries07To09Test.class,
        Boundaries10To14Test.class, Boundaries15To22Test.class, Boundaries23To28Test.class, Boundaries29To36Test.class,
        Boundaries37To42Test.class};

    /** A part of the document, blanks and line ends as single blanks, and which of its signs a test tells. */
    private static final class Part {
        final String text;
        final boolean[] told;

        Part(String text) {
            this.text = oneBlank(text);
            told = new boolean[this.text.length()];
        }

        boolean tell(String words) {
            int from = text.indexOf(words);
            for (int at = from; at >= 0; at = text.indexOf(words, at + 1)) {
                for (int i = at; i < at + words.length(); i++) {
                    told[i] = true;
                }
            }
            return from >= 0;
        }

        List<String> untold() {
            List<String> all = new ArrayList<>();
            StringBuilder words = new StringBuilder();
            for (int i = 0; i <= told.length; i++) {
                if (i < told.length && !told[i]) {
                    words.append(text.charAt(i));
                } else {
                    if (words.toString().matches(".*[A-Za-z0-9].*")) {
                        all.add(words.toString().trim());
                    }
                    words.setLength(0);
                }
            }
            return all;
        }
    }

    private static String oneBlank(String text) {
        return text.replaceAll("\\s+", " ");
    }

    public static void main(String[] args) throws IOException {
        String document = Files.readString(Path.of("../shared/DOC.md"));
        Part terms = terms(document);
        Map<Integer, Part> promises = promises(document);
        Map<Integer, Integer> tests = new TreeMap<>();
        for (Class<?> type : TESTS) {
            for (Method test : type.getDeclaredMethods()) {
                if (test.isAnnotationPresent(Says.class)) {
                    int promise = numberOf(test);
                    tests.merge(promise, 1, Integer::sum);
                    tell(test, promises.get(promise), terms);
                }
            }
        }
        for (int promise = 1; promise <= PROMISES; promise++) {
            due("whether promise " + promise + " has tests", tests.containsKey(promise), true);
            dueText("untold of promise " + promise, promises.get(promise).untold().toString(), "[]");
        }
        dueText("untold of the terms", terms.untold().toString(), "[]");
        end("each sentence is told by a test");
    }

    private static int numberOf(Method test) {
        Matcher m = Pattern.compile("p(\\d\\d)_\\w+").matcher(test.getName());
        if (!m.matches()) {
            wrong(test.getName() + " does not begin with its promise");
            return 1;
        }
        return Integer.parseInt(m.group(1));
    }

    private static void tell(Method test, Part promise, Part terms) {
        for (String words : test.getAnnotation(Says.class).value()) {
            boolean ofPromise = promise.tell(words);
            if (!(terms.tell(words) || ofPromise)) {
                wrong(test.getName() + " tells what the document does not: " + words);
            }
        }
    }

    /** Ahead of the face how long an object is used; sections 1 to 6 and what stands behind them, without marks. */
    private static Part terms(String document) {
        String all = document.substring(document.indexOf("An object is used"), document.indexOf("; what later calls") + 1)
                + document.substring(document.indexOf("## Terms") + 8, document.indexOf("## Promise 1:"));
        return new Part(all.replaceAll("==== \\d\\.", "").replaceAll("```(text)?", ""));
    }

    private static Map<Integer, Part> promises(String document) {
        Map<Integer, Part> all = new TreeMap<>();
        String rest = document.substring(document.indexOf("## Promise 1:"), document.indexOf("## Not promised"));
        for (String one : rest.split("## Promise ")) {
            if (!one.isEmpty()) {
                int number = Integer.parseInt(one.substring(0, one.indexOf(':')));
                all.put(number, new Part(one.substring(one.indexOf("\n", one.indexOf('`')) < 0 ? 0 : one.indexOf("`:") + 2)));
            }
        }
        due("promises", all.size(), PROMISES);
        return all;
    }
}
