import java.io.ByteArrayOutputStream;
import java.io.IOException;
import java.io.InputStream;
import java.lang.reflect.Method;
import java.lang.reflect.Modifier;
import java.nio.file.Files;
import java.nio.file.Path;
import java.util.ArrayList;
import java.util.List;
import java.util.regex.Matcher;
import java.util.regex.Pattern;
import java.util.stream.Stream;

/** What README.md shows compiles and answers as it says, by the very commands that it tells. */
public final class ReadmeTests {
    private static final Path BUILD = Path.of("build/readme");
    private static final String EXAMPLE = "Example.java";

    public static void main(String[] args) throws IOException, InterruptedException {
        String readme = Files.readString(Path.of("README.md"));
        List<String> commands = commands(readme);
        example(readme, commands);
        face(readme);
        tests(readme, commands);
        Check.end("ReadmeTests");
    }

    /** The lines that are indented by four and stand outside the program. */
    private static List<String> commands(String readme) {
        List<String> found = new ArrayList<>();
        for (String line : readme.replaceAll("(?s)```java\n.*?```", "").split("\n")) {
            if (line.matches(" {4}\\S.*")) {
                found.add(line.trim());
            }
        }
        return found;
    }

    private static void example(String readme, List<String> commands) throws IOException, InterruptedException {
        Check.part("README: how to use it");
        Matcher block = Pattern.compile("(?s)```java\n(.*?)```").matcher(readme);
        Check.due("a program", block.find(), true);
        String program = block.group(1);
        Check.due("one program", block.find(), false);
        Files.createDirectories(BUILD);
        Files.writeString(BUILD.resolve(EXAMPLE), program);
        String printed = "";
        int ran = 0;
        for (String command : commands) {
            if (command.contains("build/example")) {
                // the checkout stays as it is: the program lies below build/ here
                String here = command.replace(" " + EXAMPLE, " " + BUILD.resolve(EXAMPLE))
                        .replace("build/example", BUILD.resolve("classes").toString());
                printed = run(here);
                ran++;
            }
        }
        Check.due("commands that compile and run it", ran, 2);
        Check.same("what it prints", printed, toldAnswers(program));
    }

    /** What stands behind each call that is shown, up to a colon. */
    private static String toldAnswers(String program) {
        StringBuilder told = new StringBuilder();
        int shown = 0;
        int answers = 0;
        for (String line : program.split("\n")) {
            if (line.matches(" +show\\((read\\()?tales.*")) {
                shown++;
            }
            Matcher answer = Pattern.compile(";\\s+// ([^:]+)(:.*)?$").matcher(line);
            if (answer.find()) {
                answers++;
                told.append(answer.group(1).trim()).append('\n');
            }
        }
        Check.due("calls that are shown with an answer", answers, shown);
        return told.toString();
    }

    private static void face(String readme) {
        Check.part("README: all calls");
        for (Method method : SpiderTales.class.getDeclaredMethods()) {
            if (Modifier.isPublic(method.getModifiers())) {
                Check.due("it names " + method.getName(), readme.contains("`" + method.getName() + "`"), true);
            }
        }
    }

    private static void tests(String readme, List<String> commands) throws IOException, InterruptedException {
        Check.part("README: how to run its tests");
        try (Stream<Path> files = Files.list(Path.of("tests"))) {
            for (Path file : files.filter(f -> f.toString().endsWith(".java")).toList()) {
                Check.due("it names " + file, readme.contains("`" + file + "`"), true);
            }
        }
        Matcher named = Pattern.compile("`((?:src|tests)/[\\w/]+\\.java)`").matcher(readme);
        while (named.find()) {
            Check.due("there is " + named.group(1), Files.isRegularFile(Path.of(named.group(1))), true);
        }
        Check.due("it tells .ci/run", commands.contains(".ci/run"), true);
        Check.due(".ci/run can be run", Files.isExecutable(Path.of(".ci/run")), true);
        int ran = 0;
        for (String command : commands) {
            if (command.contains("build/own")) {
                run(command);
                ran++;
            }
        }
        Check.due("commands that run one test", ran, 1);
    }

    /** What a command prints; it must end well. */
    private static String run(String command) throws IOException, InterruptedException {
        Process process = new ProcessBuilder(command.split(" ")).redirectErrorStream(true).start();
        ByteArrayOutputStream printed = new ByteArrayOutputStream();
        try (InputStream output = process.getInputStream()) {
            output.transferTo(printed);
        }
        Check.due(command + " printed " + printed + " and ended by", process.waitFor(), 0);
        return printed.toString().replace("\r\n", "\n");
    }
}
