import java.io.IOException;
import java.nio.charset.StandardCharsets;
import java.nio.file.Files;
import java.nio.file.Path;
import java.util.ArrayList;
import java.util.List;
import java.util.regex.Matcher;
import java.util.regex.Pattern;

/** Looks in the source (the program's argument) for what LANGUAGE.md rules out. */
public final class LanguageTest {
    private static final Check CHECK = new Check();

    public static void main(String[] args) throws IOException {
        Path path = Path.of(args.length > 0 ? args[0] : "src/main/java/SameWater.java");
        String source = Files.readString(path, StandardCharsets.ISO_8859_1);
        for (int i = 0; i < source.length(); i++) {
            if (source.charAt(i) > 127) {
                CHECK.due("sign at " + i, source.charAt(i), 127);
            }
        }
        String code = source.replaceAll("(?s)/\\*.*?\\*/", "").replaceAll("//[^\n]*", "")
                .replaceAll("\"[^\"\n]*\"", "\"\"").replaceAll("'[^']*'", "' '");
        words(code);
        face(code);
        privateNames(code);
        methodLengths(code);
        CHECK.end();
    }

    private static int found(String code, String pattern) {
        Matcher matcher = Pattern.compile(pattern).matcher(code);
        int found = 0;
        while (matcher.find()) {
            found++;
        }
        return found;
    }

    private static void words(String code) {
        for (String word : new String[] {"throw", "throws", "try", "catch", "finally", "synchronized", "assert",
                "import", "package", "protected", "volatile", "native", "hashCode", "toString", "equals", "Object",
                "Random", "currentTimeMillis", "nanoTime", "Thread", "[a-zA-Z]+Exact", "record", "instanceof"}) {
            CHECK.due("word " + word, found(code, "\\b" + word + "\\b"), 0);
        }
        CHECK.due("lambdas, method references", found(code, "->|::"), 0);
        CHECK.due("static state", found(code, "\\bstatic (?!final|int |long |boolean )"), 0);
        CHECK.due("static fields that are not final", found(code, "\\bstatic (int|long|boolean)(\\[\\])? \\w+ ?(;|=)"), 0);
        CHECK.due("texts joined by +", found(code, "\"\" ?\\+|\\+ ?\"\""), 0);
    }

    private static List<String> names(String code, String pattern) {
        List<String> names = new ArrayList<>();
        Matcher matcher = Pattern.compile(pattern).matcher(code);
        while (matcher.find()) {
            names.add(matcher.group(1));
        }
        return names;
    }

    private static void face(String code) {
        List<String> face = names(code, "\\bpublic (?:int|long) (\\w+)\\(");
        CHECK.due("public methods", face.size(), 33);
        CHECK.due("public words", found(code, "\\bpublic\\b"), 33 + 4);
    }

    private static void privateNames(String code) {
        List<String> face = names(code, "\\bpublic (?:int|long) (\\w+)\\(");
        String type = "(?:int|long|boolean|void|Law|Rows|Tape|World|Acts)";
        for (String line : code.split("\n")) {
            Matcher matcher = Pattern.compile("^ +(?:private |static |final )*" + type + " (\\w+)\\(.*\\{$").matcher(line);
            if (matcher.find()) {
                CHECK.due("name of " + matcher.group(1), face.contains(matcher.group(1)) ? 1 : 0, 0);
                CHECK.due("parameters of " + matcher.group(1), found(line, ",") <= 6 ? 0 : 1, 0);
            }
        }
    }

    private static void methodLengths(String code) {
        int open = -1;
        String[] lines = code.split("\n");
        for (int i = 0; i < lines.length; i++) {
            if (lines[i].matches("^ {4}( {4})?\\S.*\\).* \\{$") && !lines[i].contains("class")) {
                open = i;
            }
            if (open >= 0 && lines[i].matches("^ {4}( {4})?}$")) {
                CHECK.due("length of " + lines[open].trim(), i - open <= 60 ? 0 : i - open, 0);
                open = -1;
            }
        }
    }
}
