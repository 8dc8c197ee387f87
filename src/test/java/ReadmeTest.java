import java.io.IOException;
import java.io.UncheckedIOException;
import java.lang.reflect.Method;
import java.lang.reflect.Modifier;
import java.net.URL;
import java.net.URLClassLoader;
import java.nio.file.Files;
import java.nio.file.Path;
import java.util.Comparator;
import java.util.List;
import java.util.Set;
import java.util.TreeSet;
import java.util.regex.Matcher;
import java.util.regex.Pattern;
import java.util.stream.Collectors;
import java.util.stream.Stream;
import javax.tools.JavaCompiler;
import javax.tools.ToolProvider;

/** README.md: what it shows of the use of the class is run call by call, and what it says of the tests is so. */
public final class ReadmeTest extends Check {
    /** A call and what it answers: a number or the name of a constant, then words. */
    private static final Pattern TOLD = Pattern.compile("(\\S.*\\));\\s+// (-?\\d+|[A-Z]+)(: \\S.*)?");
    /** What stands in the blocks without an answer: the object is made, or calls are made in a loop. */
    private static final Pattern UNTOLD = Pattern.compile("|SpillJoin join = new SpillJoin\\(\\);|for \\(.*\\) \\{|\\}| .*");
    private static final Pattern CONSTANT = Pattern.compile("\\| `([A-Z]+)` \\| (-?\\d+) \\|.*");

    private static String readme;

    public static void main(String[] args) throws IOException {
        readme = Files.readString(Path.of("README.md"));
        sentence("README.md", "behind a call stands what it answers", ReadmeTest::callsAnswer);
        sentence("README.md", "each line shows a call with its answer", ReadmeTest::linesTell);
        sentence("README.md", "how to use it: every call of the face", ReadmeTest::allCallsAreShown);
        sentence("README.md", "what is told without a number has names", ReadmeTest::constantsAreNamed);
        sentence("README.md", "how to run its tests", ReadmeTest::testsAreRunSo);
        sentence("README.md", "the tests of the project", ReadmeTest::testsAreNamed);
        sentence("README.md", "files and folders that it names", ReadmeTest::pathsAreThere);
        end();
    }

    /** What stands in the blocks of a language, as one text. */
    private static String blocks(String language) {
        Matcher block = Pattern.compile("(?ms)^```" + language + "\n(.*?)^```$").matcher(readme);
        return block.results().map(found -> found.group(1)).collect(Collectors.joining());
    }

    private static Stream<Matcher> toldCalls() {
        return blocks("java").lines().map(TOLD::matcher).filter(Matcher::matches);
    }

    // ---- the use

    /** The blocks as a class; each call that has an answer puts its text, what it answered and what is due on a list. */
    private static String program() {
        StringBuilder text = new StringBuilder("import java.util.*;\npublic final class ReadmeUse {\n");
        text.append("public static List<Object[]> use() {\nList<Object[]> told = new ArrayList<>();\n");
        for (String line : blocks("java").split("\n")) {
            Matcher call = TOLD.matcher(line);
            text.append(call.matches() ? asked(call.group(1), call.group(2)) : line).append('\n');
        }
        return text.append("return told;\n}\n}\n").toString();
    }

    private static String asked(String call, String answer) {
        String name = call.replace("\\", "\\\\").replace("\"", "\\\"");
        String due = Character.isLetter(answer.charAt(0)) ? "SpillJoin." + answer : answer + "L";
        return "told.add(new Object[] {\"" + name + "\", (long) " + call + ", (long) " + due + "});";
    }

    private static void callsAnswer() {
        try {
            Path place = Files.createTempDirectory("readme");
            try {
                for (Object[] told : used(place)) {
                    due((String) told[0], (Long) told[1], (Long) told[2]);
                }
            } finally {
                remove(place);
            }
        } catch (IOException e) {
            throw new UncheckedIOException(e);
        }
    }

    @SuppressWarnings("unchecked")
    private static List<Object[]> used(Path place) throws IOException {
        Path file = Files.writeString(place.resolve("ReadmeUse.java"), program());
        JavaCompiler compiler = ToolProvider.getSystemJavaCompiler();
        int failed = compiler.run(null, null, null, "-encoding", "UTF-8", "-cp", System.getProperty("java.class.path"),
            "-d", place.toString(), file.toString());
        due("the blocks compiled", failed, 0);
        if (failed != 0) {
            return List.of();
        }
        try (URLClassLoader loader = new URLClassLoader(new URL[] {place.toUri().toURL()}, ReadmeTest.class.getClassLoader())) {
            return (List<Object[]>) loader.loadClass("ReadmeUse").getMethod("use").invoke(null);
        } catch (ReflectiveOperationException e) {
            throw new IllegalStateException("the blocks can't be run", e);
        }
    }

    private static void remove(Path place) throws IOException {
        try (Stream<Path> files = Files.walk(place)) {
            for (Path file : files.sorted(Comparator.reverseOrder()).collect(Collectors.toList())) {
                Files.delete(file);
            }
        }
    }

    private static void linesTell() {
        for (String line : blocks("java").split("\n")) {
            boolean tells = TOLD.matcher(line).matches() || UNTOLD.matcher(line).matches();
            due("'" + line + "' is a call with its answer, or needs none", tells ? 1 : 0, 1);
        }
    }

    private static void allCallsAreShown() {
        Set<String> shown = new TreeSet<>();
        toldCalls().forEach(call -> shown.add(call.group(1).replaceAll(".*\\.(\\w+)\\(.*", "$1")));
        for (Method method : SpillJoin.class.getDeclaredMethods()) {
            if (Modifier.isPublic(method.getModifiers())) {
                due(method.getName() + "() is shown", shown.contains(method.getName()) ? 1 : 0, 1);
            }
        }
    }

    private static void constantsAreNamed() {
        String named = readme.lines().map(CONSTANT::matcher).filter(Matcher::matches)
            .map(row -> row.group(1) + " " + row.group(2)).collect(Collectors.joining(", "));
        due("the constants", named, "NONE " + SpillJoin.NONE + ", UNKNOWN " + SpillJoin.UNKNOWN + ", OUTSIDE " + SpillJoin.OUTSIDE
            + ", STATE " + SpillJoin.STATE + ", FULL " + SpillJoin.FULL);
    }

    // ---- the tests

    private static void testsAreRunSo() {
        due("what is to be typed", blocks("sh"), ".ci/run\n");
        due(".ci/run can be started", Files.isExecutable(Path.of(".ci/run")) ? 1 : 0, 1);
        try {
            String script = Files.readString(Path.of(".ci/run"));
            String[] looked = {"src/main/java/SpillJoin.java", "src/test/java/*Test.java", "../shared/tests/*.java"};
            for (String files : looked) {
                due(".ci/run looks for " + files, script.contains(files) ? 1 : 0, 1);
            }
        } catch (IOException e) {
            throw new UncheckedIOException(e);
        }
    }

    private static void testsAreNamed() {
        Set<String> named = new TreeSet<>();
        Pattern.compile("`(\\w+Test)`").matcher(readme).results().forEach(found -> named.add(found.group(1)));
        Set<String> there = new TreeSet<>();
        for (String file : Path.of("src/test/java").toFile().list()) {
            if (file.endsWith("Test.java")) {
                there.add(file.substring(0, file.length() - ".java".length()));
            }
        }
        due("the tests", named.toString(), there.toString());
    }

    private static void pathsAreThere() {
        Matcher path = Pattern.compile("`([\\w.]*/[\\w./]*|\\.\\.[\\w./]*)`").matcher(readme);
        path.results().forEach(found ->
            due(found.group(1) + " is there", Files.exists(Path.of(found.group(1))) ? 1 : 0, 1));
    }
}
