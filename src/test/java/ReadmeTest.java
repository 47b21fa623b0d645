import java.io.File;
import java.io.IOException;
import java.lang.reflect.Method;
import java.nio.charset.StandardCharsets;
import java.nio.file.Files;
import java.nio.file.Path;
import java.util.ArrayList;
import java.util.Arrays;
import java.util.HashMap;
import java.util.List;
import java.util.Map;
import java.util.Set;
import java.util.TreeSet;
import java.util.concurrent.TimeUnit;
import java.util.regex.Matcher;
import java.util.regex.Pattern;

/** What README.md says can be done just so. Takes the source's path, the document's, and README.md's. */
public final class ReadmeTest {
    private static final Pattern BLOCK = Pattern.compile("(?m)^```(\\w+)\n((?s:.*?))^```$");
    private static final Pattern STEP = Pattern.compile("well\\.(\\w+)\\(([^)]*)\\);\\s+// (-?\\d+)(:.*)?");
    private static final Pattern CALL = Pattern.compile("(?m)^\\| `(\\w+\\([^)]*\\))` \\|");
    private static final Pattern FACE = Pattern.compile("public (?:int|long) (\\w+)\\(([^)]*)\\)");
    private static final Path TRIED = Path.of("build", "readme");

    private ReadmeTest() {
    }

    public static void main(String[] args) throws IOException, ReflectiveOperationException, InterruptedException {
        String readme = Files.readString(Path.of(args[2]), StandardCharsets.UTF_8);
        everyCallIsTold(readme, Files.readString(Path.of(args[0]), StandardCharsets.UTF_8));
        tourAnswersAsTold(readme);
        firstProgramRunsAsTold(readme);
        testsAreTold(readme);
        namedFilesAreThere(readme);
        sectionsAreThere(readme);
        Check.end("ReadmeTest");
    }

    /** The blocks of a language, in order. */
    private static List<String> blocks(String readme, String language) {
        List<String> found = new ArrayList<>();
        Matcher block = BLOCK.matcher(readme);
        while (block.find()) {
            if (block.group(1).equals(language)) {
                found.add(block.group(2));
            }
        }
        return found;
    }

    private static void everyCallIsTold(String readme, String source) {
        Set<String> want = new TreeSet<>();
        Matcher method = FACE.matcher(source);
        while (method.find()) {
            want.add(method.group(1) + "(" + method.group(2).replaceAll("\\b(int|long) ", "") + ")");
        }
        Check.due("calls of the class", want.size(), FaceTest.FACE.length);
        List<String> got = new ArrayList<>();
        Matcher call = CALL.matcher(readme);
        while (call.find()) {
            got.add(call.group(1));
        }
        for (String each : want) {
            Check.due("README.md: rows for " + each, got.stream().filter(each::equals).count(), 1);
        }
        Check.due("README.md: rows for calls", got.size(), want.size());
    }

    private static void tourAnswersAsTold(String readme) throws ReflectiveOperationException {
        String tour = blocks(readme, "java").get(1);
        Map<String, Method> methods = new HashMap<>();
        for (Method method : WellIsAskedFirst.class.getMethods()) {
            methods.put(method.getName(), method);
        }
        Set<String> named = new TreeSet<>();
        WellIsAskedFirst well = new WellIsAskedFirst();
        for (String line : tour.split("\n")) {
            Matcher step = STEP.matcher(line);
            boolean isStep = step.matches() && methods.containsKey(step.group(1));
            Check.holds("README.md: a step of the tour: " + line, isStep || line.isEmpty());
            if (isStep) {
                named.add(step.group(1));
                Method method = methods.get(step.group(1));
                Object answer = method.invoke(well, numbers(method, step.group(2)));
                Check.due("README.md: " + line, ((Number) answer).longValue(), Long.parseLong(step.group(3)));
            }
        }
        for (String face : FaceTest.FACE) {
            String name = face.split(" ")[1];
            Check.holds("README.md: the tour calls " + name, named.contains(name));
        }
    }

    private static Object[] numbers(Method method, String text) {
        Class<?>[] types = method.getParameterTypes();
        String[] words = text.isEmpty() ? new String[0] : text.split(", ");
        Check.due("README.md: numbers for " + method.getName(), words.length, types.length);
        Object[] numbers = new Object[types.length];
        for (int i = 0; i < types.length; i++) {
            long number = words[i].startsWith("'") ? words[i].charAt(1) : Long.parseLong(words[i]);
            numbers[i] = types[i] == long.class ? (Object) number : (Object) (int) number;
        }
        return numbers;
    }

    private static void firstProgramRunsAsTold(String readme) throws IOException, InterruptedException {
        Files.createDirectories(TRIED);
        Files.writeString(TRIED.resolve("First.java"), blocks(readme, "java").get(0), StandardCharsets.UTF_8);
        String said = "";
        for (String command : blocks(readme, "sh").get(0).split("\n")) {
            said = run(command.replace(" First.java", " " + TRIED.resolve("First.java")));
        }
        Check.holds("README.md: the first program says what it should, not " + said, said.equals(blocks(readme, "text").get(0)));
    }

    private static String run(String command) throws IOException, InterruptedException {
        File told = TRIED.resolve("told").toFile();
        Process process = new ProcessBuilder(command.split(" ")).redirectErrorStream(true).redirectOutput(told).start();
        boolean ended = process.waitFor(2, TimeUnit.MINUTES);
        Check.holds("README.md: " + command + " ends well", ended && process.exitValue() == 0);
        return Files.readString(told.toPath(), StandardCharsets.UTF_8);
    }

    private static void testsAreTold(String readme) {
        String tests = readme.substring(readme.indexOf("\n## Tests"));
        for (String file : namesOf("src/test/java")) {
            String name = file.replace(".java", "");
            Check.holds("README.md names " + name, tests.contains("`" + name + "`"));
        }
        Matcher started = Pattern.compile("java -cp build/project (\\w+)").matcher(tests);
        while (started.find()) {
            Check.holds("README.md: " + started.group(), new File("src/test/java", started.group(1) + ".java").isFile());
        }
        Check.holds("README.md: .ci/run can be run", new File(".ci/run").canExecute() && tests.contains("```sh\n.ci/run\n```"));
    }

    private static List<String> namesOf(String directory) {
        String[] names = new File(directory).list((where, name) -> name.endsWith(".java"));
        Check.holds(directory + " has tests", names != null && names.length > 0);
        return names == null ? List.of() : Arrays.asList(names);
    }

    private static void namedFilesAreThere(String readme) {
        Matcher name = Pattern.compile("`((?:src/|\\.ci/|NOTES|README)[\\w./]*)`").matcher(readme);
        while (name.find()) {
            Check.holds("README.md: " + name.group(1) + " is there", new File(name.group(1)).exists());
        }
    }

    /** Each link to a section of this page leads to one. */
    private static void sectionsAreThere(String readme) {
        Set<String> sections = new TreeSet<>();
        Matcher heading = Pattern.compile("(?m)^#+ (.*)$").matcher(readme);
        while (heading.find()) {
            sections.add(heading.group(1).toLowerCase().replace(' ', '-'));
        }
        Matcher link = Pattern.compile("\\(#([^)]*)\\)").matcher(readme);
        while (link.find()) {
            Check.holds("README.md: a section " + link.group(1), sections.contains(link.group(1)));
        }
    }
}
