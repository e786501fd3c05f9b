import java.io.IOException;
import java.lang.reflect.Modifier;
import java.nio.charset.StandardCharsets;
import java.nio.file.Files;
import java.nio.file.Path;
import java.util.ArrayList;
import java.util.Arrays;
import java.util.HashMap;
import java.util.HashSet;
import java.util.List;
import java.util.Map;
import java.util.Set;
import java.util.regex.Matcher;
import java.util.regex.Pattern;

/** Looks in the source (the program's argument) for what LANGUAGE.md rules out. */
public final class LanguageTest {
    private static final Check CHECK = new Check();

    public static void main(String[] args) throws IOException {
        Path path = Path.of(args.length > 0 ? args[0] : "src/main/java/SameWater.java");
        String source = Files.readString(path, StandardCharsets.ISO_8859_1);
        for (int i = 0; i < source.length(); i++) {
            if (source.charAt(i) > 127) {
                CHECK.due("sign at " + i, source.charAt(i), 127);
            }
        }
        String code = source.replaceAll("(?s)/\\*.*?\\*/", "").replaceAll("//[^\n]*", "")
                .replaceAll("\"[^\"\n]*\"", "\"\"").replaceAll("'[^']*'", "' '");
        words(code);
        face(code);
        privateNames(code);
        methodLengths(code);
        callsInOneAnother(code);
        sizes(code);
        CHECK.end();
    }

    private static int found(String code, String pattern) {
        Matcher matcher = Pattern.compile(pattern).matcher(code);
        int found = 0;
        while (matcher.find()) {
            found++;
        }
        return found;
    }

    private static void words(String code) {
        for (String word : new String[] {"throw", "throws", "try", "catch", "finally", "synchronized", "assert",
                "import", "package", "protected", "volatile", "native", "hashCode", "toString", "equals", "Object",
                "Random", "currentTimeMillis", "nanoTime", "Thread", "[a-zA-Z]+Exact", "record", "instanceof"}) {
            CHECK.due("word " + word, found(code, "\\b" + word + "\\b"), 0);
        }
        CHECK.due("lambdas, method references", found(code, "->|::"), 0);
        CHECK.due("static state", found(code, "\\bstatic (?!final|int |long |boolean )"), 0);
        CHECK.due("static fields that are not final", found(code, "\\bstatic (int|long|boolean)(\\[\\])? \\w+ ?(;|=)"), 0);
        CHECK.due("texts joined by +", found(code, "\"\" ?\\+|\\+ ?\"\""), 0);
    }

    private static List<String> names(String code, String pattern) {
        List<String> names = new ArrayList<>();
        Matcher matcher = Pattern.compile(pattern).matcher(code);
        while (matcher.find()) {
            names.add(matcher.group(1));
        }
        return names;
    }

    private static void face(String code) {
        List<String> face = names(code, "\\bpublic (?:int|long) (\\w+)\\(");
        CHECK.due("public methods", face.size(), 33);
        CHECK.due("public words", found(code, "\\bpublic\\b"), 33 + 4);
    }

    private static void privateNames(String code) {
        List<String> face = names(code, "\\bpublic (?:int|long) (\\w+)\\(");
        String type = "(?:int|long|boolean|void|Law|Rows|Tape|World|Acts)";
        for (String line : code.split("\n")) {
            Matcher matcher = Pattern.compile("^ +(?:private |static |final )*" + type + " (\\w+)\\(.*\\{$").matcher(line);
            if (matcher.find()) {
                CHECK.due("name of " + matcher.group(1), face.contains(matcher.group(1)) ? 1 : 0, 0);
                CHECK.due("parameters of " + matcher.group(1), found(line, ",") <= 6 ? 0 : 1, 0);
            }
        }
    }

    private static void methodLengths(String code) {
        int open = -1;
        String[] lines = code.split("\n");
        for (int i = 0; i < lines.length; i++) {
            if (lines[i].matches("^ {4}( {4})?\\S.*\\).* \\{$") && !lines[i].contains("class")) {
                open = i;
            }
            if (open >= 0 && lines[i].matches("^ {4}( {4})?}$")) {
                CHECK.due("length of " + lines[open].trim(), i - open <= 60 ? 0 : i - open, 0);
                open = -1;
            }
        }
    }

    /** The names that stand ahead of a ( in each method, by its name; methods of one name count as one. */
    private static Map<String, Set<String>> calls(String code) {
        Map<String, Set<String>> calls = new HashMap<>();
        String open = null;
        for (String line : code.split("\n")) {
            Matcher head = Pattern.compile("^ {4}( {4})?(?:\\w+(?:\\[\\])? )+(\\w+)\\(.*\\{$").matcher(line);
            if (head.find() && !line.contains("class ")) {
                open = head.group(2);
                calls.computeIfAbsent(open, name -> new HashSet<>());
            } else if (open != null) {
                calls.get(open).addAll(names(line, "\\b(\\w+)\\("));
            }
        }
        for (Set<String> called : calls.values()) {
            called.retainAll(calls.keySet());
        }
        return calls;
    }

    private static boolean leadsTo(Map<String, Set<String>> calls, String from, String to, Set<String> seen) {
        for (String called : calls.get(from)) {
            if (called.equals(to) || seen.add(called) && leadsTo(calls, called, to, seen)) {
                return true;
            }
        }
        return false;
    }

    /** How many calls stand open at most, when this one has begun; a call that leads back is recursion. */
    private static int depth(Map<String, Set<String>> calls, String name) {
        int deepest = 0;
        for (String called : calls.get(name)) {
            if (!called.equals(name) && !leadsTo(calls, called, name, new HashSet<>())) {
                deepest = Math.max(deepest, depth(calls, called));
            }
        }
        return deepest + 1;
    }

    /** "calls that are no recursion go at most eight deep"; the acts' bodies and a law's brackets alone are recursions. */
    private static void callsInOneAnother(String code) {
        Map<String, Set<String>> calls = calls(code);
        CHECK.due("methods are found", calls.size() > 80 ? 1 : 0, 1);
        Set<String> recursive = new HashSet<>();
        for (String name : calls.keySet()) {
            int depth = depth(calls, name);
            CHECK.due("depth of " + name, depth <= 8 ? 8 : depth, 8);
            if (leadsTo(calls, name, name, new HashSet<>())) {
                recursive.add(name);
            }
        }
        recursive.remove("copy");
        CHECK.due("recursions: " + recursive, recursive.equals(Set.of("run", "readEither", "readBoth", "readPart")) ? 1 : 0, 1);
    }

    /** "at most some twelve classes, and a class some twenty fields"; each object and array is made in a constructor. */
    private static void sizes(String code) {
        CHECK.due("classes", found(code, "\\bclass \\w+") <= 12 ? 1 : 0, 1);
        for (Class<?> inside : SameWater.class.getDeclaredClasses()) {
            long fields = Arrays.stream(inside.getDeclaredFields()).filter(field -> !Modifier.isStatic(field.getModifiers())).count();
            CHECK.due("fields of " + inside.getSimpleName(), fields <= 20 ? 1 : 0, 1);
        }
        for (String line : code.split("\n")) {
            if (found(line, "\\bnew \\w") > 0) {
                boolean field = line.matches(" +(private )?final .* = new .*;");
                boolean row = line.matches(" +(this\\.cells|laws\\[i\\]) = new .*;");
                CHECK.due("made with its object: " + line.trim(), field || row ? 1 : 0, 1);
            }
        }
    }
}
