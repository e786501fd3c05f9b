import java.io.IOException;
import java.lang.reflect.Constructor;
import java.lang.reflect.Field;
import java.lang.reflect.Method;
import java.lang.reflect.Modifier;
import java.nio.charset.StandardCharsets;
import java.nio.file.Files;
import java.nio.file.Path;
import java.util.ArrayList;
import java.util.Collections;
import java.util.List;
import java.util.regex.Matcher;
import java.util.regex.Pattern;

/** "The public face": what is public in the class is the document's code block, each line of it and nothing else. */
public final class FaceTest {
    private static final Check CHECK = new Check();
    private static final Path DOCUMENT = Path.of("../shared/DOC.md");
    private static final Path SOURCE = Path.of("src/main/java/SameWater.java");

    public static void main(String[] args) throws Exception {
        List<String> block = codeBlock();
        theClass(block);
        constants(block);
        theConstructor(block);
        methods(block);
        namesOfParameters(block);
        allElseIsPrivate();
        classesInside();
        CHECK.end();
    }

    /** The lines of the document's code block, without their indents and the ; at their ends. */
    private static List<String> codeBlock() throws IOException {
        String document = Files.readString(DOCUMENT, StandardCharsets.UTF_8);
        String face = document.substring(document.indexOf("## The public face"));
        String block = face.substring(face.indexOf("```java\n") + 8, face.indexOf("\n```\n"));
        List<String> lines = new ArrayList<>();
        for (String line : block.split("\n")) {
            lines.add(line.trim().replaceAll(";$", ""));
        }
        return lines;
    }

    private static void alike(String what, List<String> got, List<String> want) {
        Collections.sort(got);
        Collections.sort(want);
        CHECK.alike(what, String.join("\n", got), String.join("\n", want));
    }

    private static void theClass(List<String> block) {
        CHECK.due("lines of the block", block.size(), 38);
        CHECK.due("the class's line", block.get(0).equals("public final class SameWater {") ? 1 : 0, 1);
        CHECK.due("public and final", SameWater.class.getModifiers(), Modifier.PUBLIC | Modifier.FINAL);
        CHECK.due("extends nothing", SameWater.class.getSuperclass() == Object.class ? 1 : 0, 1);
        CHECK.due("implements nothing", SameWater.class.getInterfaces().length, 0);
        CHECK.due("no package", SameWater.class.getPackageName().length(), 0);
    }

    /** Such as "int NONE = -1". */
    private static void constants(List<String> block) throws IllegalAccessException {
        List<String> want = new ArrayList<>();
        for (String line : block) {
            Matcher matcher = Pattern.compile("public static final (int|long) (.*)").matcher(line);
            if (matcher.matches()) {
                for (String constant : matcher.group(2).split(", ")) {
                    want.add(matcher.group(1) + " " + constant.replace("Long.MIN_VALUE", "" + Long.MIN_VALUE));
                }
            }
        }
        CHECK.due("constants", want.size(), 5);
        List<String> got = new ArrayList<>();
        for (Field field : SameWater.class.getFields()) {
            int all = Modifier.PUBLIC | Modifier.STATIC | Modifier.FINAL;
            CHECK.due("public, static and final " + field.getName(), field.getModifiers(), all);
            got.add(field.getType().getName() + " " + field.getName() + " = " + field.get(null));
        }
        alike("constants", got, want);
    }

    private static void theConstructor(List<String> block) throws Exception {
        CHECK.due("the constructor's line", block.contains("public SameWater()") ? 1 : 0, 1);
        Constructor<?>[] constructors = SameWater.class.getDeclaredConstructors();
        CHECK.due("constructors", constructors.length, 1);
        CHECK.due("public", constructors[0].getModifiers(), Modifier.PUBLIC);
        CHECK.due("without parameters", constructors[0].getParameterCount(), 0);
        CHECK.due("throws nothing", constructors[0].getExceptionTypes().length, 0);
    }

    /** Such as "public int act(int,int,int)". */
    private static void methods(List<String> block) {
        List<String> want = new ArrayList<>();
        for (String line : block) {
            Matcher matcher = Pattern.compile("(public (?:int|long) \\w+)\\((.*)\\)").matcher(line);
            if (matcher.matches()) {
                want.add(matcher.group(1) + "(" + matcher.group(2).replaceAll(" \\w+(, )?", ",").replaceAll(",$", "") + ")");
            }
        }
        CHECK.due("methods", want.size(), 33);
        List<String> got = new ArrayList<>();
        for (Method method : SameWater.class.getDeclaredMethods()) {
            if (Modifier.isPublic(method.getModifiers())) {
                got.add(method.toString().replace("SameWater.", ""));
                CHECK.due("throws nothing: " + method.getName(), method.getExceptionTypes().length, 0);
            }
        }
        alike("methods", got, want);
    }

    /** The names are the document's, too. */
    private static void namesOfParameters(List<String> block) throws IOException {
        List<String> source = new ArrayList<>();
        for (String line : Files.readAllLines(SOURCE, StandardCharsets.ISO_8859_1)) {
            source.add(line.trim().replaceAll(" \\{$|;$", ""));
        }
        for (String line : block) {
            String plain = line.replaceAll(" \\{$", "");
            CHECK.due("in the source: " + plain, Collections.frequency(source, plain) >= 1 ? 1 : 0, 1);
        }
    }

    private static void allElseIsPrivate() {
        for (Field field : SameWater.class.getDeclaredFields()) {
            int modifiers = field.getModifiers();
            CHECK.due("private or public " + field.getName(), modifiers & (Modifier.PUBLIC | Modifier.PRIVATE), Modifier.isPublic(modifiers)
                    ? Modifier.PUBLIC : Modifier.PRIVATE);
            CHECK.due("no static state " + field.getName(), Modifier.isStatic(modifiers) && !Modifier.isFinal(modifiers) ? 1 : 0, 0);
        }
        for (Method method : SameWater.class.getDeclaredMethods()) {
            int modifiers = method.getModifiers();
            CHECK.due("private or public " + method.getName(), modifiers & (Modifier.PUBLIC | Modifier.PRIVATE), Modifier.isPublic(modifiers)
                    ? Modifier.PUBLIC : Modifier.PRIVATE);
        }
    }

    /** They are static, and nothing of them is seen from outside. */
    private static void classesInside() {
        int seen = Modifier.PUBLIC | Modifier.PROTECTED;
        for (Class<?> inside : SameWater.class.getDeclaredClasses()) {
            String name = inside.getSimpleName();
            CHECK.due("static " + name, inside.getModifiers() & Modifier.STATIC, Modifier.STATIC);
            CHECK.due("not seen: " + name, inside.getModifiers() & seen, 0);
            for (Field field : inside.getDeclaredFields()) {
                CHECK.due("not seen: " + name + "." + field.getName(), field.getModifiers() & seen, 0);
            }
            for (Method method : inside.getDeclaredMethods()) {
                CHECK.due("not seen: " + name + "." + method.getName(), method.getModifiers() & seen, 0);
            }
            for (Constructor<?> constructor : inside.getDeclaredConstructors()) {
                CHECK.due("not seen: " + name + "'s constructor", constructor.getModifiers() & seen, 0);
            }
            CHECK.due("none inside " + name, inside.getDeclaredClasses().length, 0);
        }
    }
}
