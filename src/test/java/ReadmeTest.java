import java.io.IOException;
import java.nio.file.Files;
import java.nio.file.Path;
import java.util.ArrayList;
import java.util.Comparator;
import java.util.List;
import java.util.TreeSet;
import java.util.regex.Matcher;
import java.util.regex.Pattern;
import java.util.stream.Stream;

/** What README.md says is so: its program prints what it says, its commands run, and it names all tests. */
public final class ReadmeTest extends Checks {
    private static final String ALL_TESTS = ".ci/run";
    private static final String PROGRAM = "java -cp out Use";

    public static void main(String[] args) throws IOException, InterruptedException {
        String page = Files.readString(Path.of("README.md"));
        String program = programOf(page);
        allTestsAreNamed(page);
        Path place = Files.createTempDirectory("readme");
        try {
            Path copy = copyOfProject(place);
            Files.writeString(copy.resolve("Use.java"), program);
            commandsRun(page, copy, printedBy(program));
        } finally {
            remove(place);
        }
        end("README.md says what is so");
    }

    private static String programOf(String page) {
        Matcher m = Pattern.compile("```java\n(.*?)```", Pattern.DOTALL).matcher(page);
        String program = m.find() ? m.group(1) : "";
        due("whether there is a program", !program.isEmpty(), true);
        due("whether there is another one", m.find(), false);
        return program;
    }

    /** What the program's lines say that they print: up to a colon. */
    private static List<String> printedBy(String program) {
        List<String> lines = new ArrayList<>();
        for (String line : program.split("\n")) {
            Matcher m = Pattern.compile(" +tell\\(.*\\); +// ([^:]+).*").matcher(line);
            if (m.matches()) {
                lines.add(m.group(1));
            } else {
                due("whether a line tells without saying what: " + line, line.trim().startsWith("tell("), false);
            }
        }
        due("whether many lines say what they print", lines.size() > 40, true);
        return lines;
    }

    private static void allTestsAreNamed(String page) throws IOException {
        TreeSet<String> there = new TreeSet<>();
        StringBuilder sources = new StringBuilder();
        try (Stream<Path> files = Files.list(Path.of("src/test/java"))) {
            for (Path file : (Iterable<Path>) files::iterator) {
                there.add(file.getFileName().toString().replace(".java", ""));
                sources.append(Files.readString(file));
            }
        }
        String tests = page.substring(page.indexOf("## Tests"));
        for (String name : there) {
            due("whether " + name + " is named", tests.contains("`" + name + "`"), true);
        }
        Matcher named = Pattern.compile("`(\\w+Test|p\\d\\d_\\w+)`").matcher(tests);
        while (named.find()) {
            String name = named.group(1);
            due("whether there is " + name, there.contains(name) || sources.indexOf("void " + name + "(") >= 0, true);
        }
    }

    /** As a clean checkout would be: what git holds, and the document beside it. */
    private static Path copyOfProject(Path place) throws IOException {
        Path copy = Files.createDirectory(place.resolve("main"));
        Files.createSymbolicLink(place.resolve("shared"), Path.of("../shared").toRealPath());
        for (String part : new String[] {"README.md", ".ci", "src"}) {
            try (Stream<Path> files = Files.walk(Path.of(part))) {
                for (Path file : (Iterable<Path>) files::iterator) {
                    Files.copy(file, copy.resolve(file));
                }
            }
        }
        return copy;
    }

    /** Commands are the lines that stand in by four blanks, outside the program. */
    private static void commandsRun(String page, Path copy, List<String> printed) throws IOException, InterruptedException {
        Matcher m = Pattern.compile("^ {4}(\\S.*)$", Pattern.MULTILINE)
                .matcher(page.replaceAll("(?s)```java.*?```", ""));
        int all = 0;
        int some = 0;
        while (m.find()) {
            String command = m.group(1);
            if (command.equals(ALL_TESTS)) {
                // it is what runs this test
                due("whether " + command + " can be run", Files.isExecutable(copy.resolve(command)), true);
                all++;
            } else {
                List<String> got = run(command, copy);
                if (command.equals(PROGRAM)) {
                    dueText("what the program prints", got.toString(), printed.toString());
                    some++;
                }
            }
        }
        due("how often all tests are run", all, 1);
        due("how often the program is run", some, 1);
    }

    private static List<String> run(String command, Path where) throws IOException, InterruptedException {
        Path out = where.resolve("printed.txt");
        Process process = new ProcessBuilder("sh", "-c", command).directory(where.toFile()).redirectErrorStream(true)
                .redirectOutput(out.toFile()).start();
        int code = process.waitFor();
        List<String> lines = Files.readAllLines(out);
        due("'" + command + "', which printed " + lines + ",", code, 0);
        return lines;
    }

    private static void remove(Path place) throws IOException {
        try (Stream<Path> files = Files.walk(place)) {
            for (Path file : (Iterable<Path>) files.sorted(Comparator.reverseOrder())::iterator) {
                Files.delete(file);
            }
        }
    }
}
