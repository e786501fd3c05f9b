import java.io.IOException;
import java.nio.charset.StandardCharsets;
import java.nio.file.Files;
import java.nio.file.Path;
import java.util.ArrayList;
import java.util.List;
import java.util.regex.Matcher;
import java.util.regex.Pattern;

/** What README.md shows holds: its example compiles and answers what stands beside it, its commands run the tests. */
public final class ReadmeTest {
    private static final Check CHECK = new Check();
    private static final Pattern BESIDE = Pattern.compile("(?:int (\\w+) = )?(water\\.\\w+\\(.*\\)); +// (-?[0-9]+): .*");

    public static void main(String[] args) throws Exception {
        String readme = Files.readString(Path.of("README.md"), StandardCharsets.UTF_8);
        example(blocks(readme, "java"));
        List<String> commands = blocks(readme, "sh");
        CHECK.due("blocks of commands", commands.size(), 2);
        allTests(commands.get(0));
        oneTest(commands.get(1));
        namesOfTests(readme);
        CHECK.end();
    }

    private static List<String> blocks(String readme, String language) {
        List<String> blocks = new ArrayList<>();
        Matcher matcher = Pattern.compile("(?s)```" + language + "\n(.*?)```").matcher(readme);
        while (matcher.find()) {
            blocks.add(matcher.group(1));
        }
        return blocks;
    }

    // ---- the example

    private static String program(String body) {
        return "public final class Example {\n public static void main(String[] args) {\n" + body + " }\n"
                + " static int due(long got, long want) {\n if (got != want) {\n"
                + " System.out.println(got + \" for \" + want);\n System.exit(1);\n }\n return (int) got;\n }\n}\n";
    }

    private static int run(Folder folder, String body) throws Exception {
        folder.write("Example.java", program(body));
        return folder.run("javac -d build Example.java src/main/java/SameWater.java && java -cp build Example");
    }

    /** As it stands; then with each answer checked; then with each one spoilt, which must be found. */
    private static void example(List<String> blocks) throws Exception {
        CHECK.due("examples", blocks.size(), 1);
        Folder folder = new Folder("example").copy(Path.of("src/main/java/SameWater.java"));
        CHECK.due("it compiles and runs", run(folder, blocks.get(0)), 0);
        StringBuilder checked = new StringBuilder();
        String lastLine = "";
        int answers = 0;
        for (String line : blocks.get(0).split("\n")) {
            Matcher matcher = BESIDE.matcher(line);
            boolean shows = matcher.matches();
            boolean isCall = line.contains("water.") && !line.startsWith("//");
            CHECK.due("an answer beside: " + line, shows ? 1 : 0, isCall ? 1 : 0);
            if (shows) {
                String name = matcher.group(1) == null ? "" : "int " + matcher.group(1) + " = ";
                lastLine = "due(" + matcher.group(2) + ", " + matcher.group(3) + ");\n";
                checked.append(name).append(lastLine);
                answers++;
            } else {
                checked.append(line).append("\n");
            }
        }
        CHECK.due("answers are shown", answers > 10 ? 1 : 0, 1);
        CHECK.due("they are the answers", run(folder, checked.toString()), 0);
        CHECK.due("another would be found", run(folder, checked + lastLine.replace(");", " + 1);")), 1);
    }

    // ---- the ways to run tests

    /** The project but for the tests that run others, or take long. */
    private static Folder project(String name) throws IOException {
        Folder folder = new Folder(name).copy(Path.of(".ci/run")).copy(Path.of("src/main/java/SameWater.java"));
        for (Path file : Folder.files("src/test/java")) {
            if (!file.toString().matches(".*(ReadmeTest|CiRunTest|RandomRunsTest)\\.java")) {
                folder.copy(file);
            }
        }
        for (Path file : Folder.files("../shared")) {
            folder.copy(file);
        }
        return folder;
    }

    private static void allTests(String command) throws Exception {
        Folder folder = project("all");
        CHECK.due("all: " + command, folder.run(command), 0);
        CHECK.due("all pass", folder.said().matches("(?s).*\n[0-9]+ passed, 0 failed\n") ? 1 : 0, 1);
        for (Path file : Folder.files(folder.path("src/test/java"))) {
            String name = file.getFileName().toString().replace(".java", "");
            CHECK.due("runs " + name, folder.said().contains("== " + name + "\n") ? 1 : 0, name.endsWith("Test") ? 1 : 0);
        }
        CHECK.due("and the shared ones", folder.said().contains("== SameWaterRuns\n") ? 1 : 0, 1);
    }

    private static void oneTest(String commands) throws Exception {
        Folder folder = project("one");
        CHECK.due("one: " + commands, folder.run("set -e\n" + commands), 0);
        CHECK.due("it passes", folder.said().endsWith(" answers, 0 not as due\n") ? 1 : 0, 1);
        CHECK.due("it is alone", folder.said().split(" answers, ", -1).length, 2);
        // A class that does not hold the document's promises is found by it.
        Path source = Path.of("src/main/java/SameWater.java");
        String broken = Files.readString(source, StandardCharsets.ISO_8859_1).replace("from[stuff] = 84;", "from[stuff] = 83;");
        folder.write(source.toString(), broken);
        CHECK.due("it fails on a broken class", folder.run("set -e\n" + commands) == 0 ? 0 : 1, 1);
    }

    /** Each test is named there, and what is named there is. */
    private static void namesOfTests(String readme) throws IOException {
        for (Path file : Folder.files("src/test/java")) {
            String name = file.getFileName().toString().replace(".java", "");
            if (name.endsWith("Test")) {
                CHECK.due("README names " + name, readme.contains("`" + name + "`") ? 1 : 0, 1);
            }
        }
        Matcher matcher = Pattern.compile("`(\\w+Test)`").matcher(readme);
        while (matcher.find()) {
            CHECK.due(matcher.group(1) + " is", Files.exists(Path.of("src/test/java/" + matcher.group(1) + ".java")) ? 1 : 0, 1);
        }
    }
}
