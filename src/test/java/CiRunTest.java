import java.io.IOException;
import java.nio.charset.StandardCharsets;
import java.nio.file.Files;
import java.nio.file.Path;

/** What .ci/run must do: run every test of the project and of ../shared/tests, and fail if one fails or won't compile. */
public final class CiRunTest {
    private static final Check CHECK = new Check();
    private static final String OWN = "src/test/java/", SHARED = "../shared/tests/";

    public static void main(String[] args) throws Exception {
        passes();
        CHECK.due("a test of the project fails", run("own-fails", OWN + "ThirdTest.java", test("ThirdTest", "System.exit(1);")), 1);
        CHECK.due("a test of the project throws", run("own-throws", OWN + "ThirdTest.java", test("ThirdTest", "int[] a = new int[0]; a[0] = 1;")), 1);
        CHECK.due("a test of the project won't compile", run("own-broken", OWN + "ThirdTest.java", test("ThirdTest", "int a = true;")), 1);
        CHECK.due("a shared test fails", run("shared-fails", SHARED + "Third.java", test("Third", "System.exit(1);")), 1);
        CHECK.due("a shared test throws", run("shared-throws", SHARED + "Third.java", test("Third", "throw new IllegalStateException();")), 1);
        CHECK.due("a shared test won't compile", run("shared-broken", SHARED + "Third.java", test("Third", "new SameWater().none();")), 1);
        CHECK.due("the class won't compile", run("class-broken", "src/main/java/SameWater.java", "public final class SameWater {"), 1);
        allTestsAreNamedSo();
        CHECK.end();
    }

    private static String test(String name, String body) {
        return "public final class " + name + " { public static void main(String[] args) { new SameWater(); " + body
                + " System.out.println(\"end of " + name + "\"); } }\n";
    }

    /** A project of two tests, with two shared ones, all of which pass. */
    private static Folder project(String name) throws IOException {
        Folder folder = new Folder(name).copy(Path.of(".ci/run")).copy(Path.of("src/main/java/SameWater.java"));
        folder.write(OWN + "FirstTest.java", test("FirstTest", "")).write(OWN + "SecondTest.java", test("SecondTest", ""));
        return folder.write(SHARED + "First.java", test("First", "")).write(SHARED + "Second.java", test("Second", ""));
    }

    private static void passes() throws Exception {
        Folder folder = project("all-pass");
        CHECK.due("all pass", folder.run(".ci/run"), 0);
        for (String name : new String[] {"FirstTest", "SecondTest", "First", "Second"}) {
            CHECK.due("runs " + name, folder.said().contains("end of " + name + "\n") ? 1 : 0, 1);
        }
        CHECK.due("tells how many", folder.said().endsWith("4 passed, 0 failed\n") ? 1 : 0, 1);
        CHECK.due("from elsewhere", folder.run("cd / && \"$OLDPWD\"/.ci/run"), 0);
        Folder none = new Folder("none-shared").copy(Path.of(".ci/run")).copy(Path.of("src/main/java/SameWater.java"));
        none.write(OWN + "FirstTest.java", test("FirstTest", ""));
        CHECK.due("no shared tests are found", none.run(".ci/run") == 0 ? 1 : 0, 0);
    }

    /** 1, if .ci/run refuses the project with this file. */
    private static int run(String name, String file, String text) throws Exception {
        Folder folder = project(name);
        folder.write(file, text);
        return folder.run(".ci/run") == 0 ? 0 : 1;
    }

    /** .ci/run goes by the name: whatever has a main is called so, and makes a check that can fail. */
    private static void allTestsAreNamedSo() throws IOException {
        int tests = 0;
        for (Path file : Folder.files("src/test/java")) {
            boolean isTest = file.toString().endsWith("Test.java");
            boolean hasMain = Files.readString(file, StandardCharsets.UTF_8).contains("public static void main(");
            CHECK.due(file + " is a test", isTest ? 1 : 0, hasMain ? 1 : 0);
            CHECK.due(file + " is where .ci/run looks", file.getNameCount(), 4);
            tests += isTest ? 1 : 0;
        }
        CHECK.due("there are tests", tests > 0 ? 1 : 0, 1);
    }
}
