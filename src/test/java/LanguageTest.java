import java.io.IOException;
import java.nio.charset.StandardCharsets;
import java.nio.file.Files;
import java.nio.file.Path;
import java.util.List;
import java.util.Set;
import java.util.TreeSet;
import java.util.regex.Matcher;
import java.util.regex.Pattern;

/** What of the rules of LANGUAGE.md can be seen in the text of the class. */
public final class LanguageTest {
    private static final Check CHECK = new Check("LanguageTest");
    private static final List<String> FACE = List.of("feed", "end", "compile", "look", "gate", "literal", "input", "give",
        "seed", "draws", "deal", "message", "deliver", "rush", "party", "dealt", "share", "view", "told", "truth");
    private static final int MOST_LINES = 60;

    public static void main(String[] args) throws IOException {
        String source = Files.readString(Path.of("src/main/java/ShareHouse.java"), StandardCharsets.UTF_8);
        String bare = source.replaceAll("(?s)/\\*.*?\\*/", "").replaceAll("//[^\n]*", "")
            .replaceAll("\"[^\"\n]*\"", "\"\"").replaceAll("'(\\\\.|[^'\\\\])'", "' '");
        CHECK.holds("characters 0 to 127", source.chars().allMatch(c -> c < 128));
        CHECK.holds("no package", !bare.contains("package "));
        words(bare);
        library(bare);
        face(bare);
        methods(bare);
        CHECK.end();
    }

    private static void none(String bare, String regex) {
        Matcher m = Pattern.compile(regex).matcher(bare);
        CHECK.holds("nothing like " + regex + (m.find() ? ": " + m.group() : ""), !m.reset().find());
    }

    private static void words(String bare) {
        none(bare, "\\b(throw|throws|try|catch|finally|synchronized|assert|volatile|transient|native|goto|var)\\b");
        none(bare, "->|::|\\bprotected\\b|@\\w+");
        none(bare, "\\bstatic\\s*\\{");
        none(bare, "\\bwhile\\s*\\(\\s*true|for\\s*\\(\\s*;\\s*;");
        none(bare, "\\b(equals|hashCode|toString)\\s*\\(");
        none(bare, "\"\"\\s*\\+|\\+\\s*\"\"");
        none(bare, "\\bstatic\\s+(?!final\\b)[\\w\\[\\]]+\\s+\\w+\\s*[=;]");
        none(bare, "\\[\\]\\s*\\[\\]\\s*\\[\\]");
    }

    private static void library(String bare) {
        Matcher imports = Pattern.compile("import\\s+([\\w.]+);").matcher(bare);
        while (imports.find()) {
            CHECK.holds("import " + imports.group(1), Set.of("java.util.Arrays", "java.util.ArrayList", "java.util.List")
                .contains(imports.group(1)));
        }
        none(bare, "\\bSystem\\.(?!arraycopy\\b)");
        none(bare, "\\bArrays\\.(?!fill\\b)");
        none(bare, "\\b(Math|Integer|Long)\\.\\w*Exact\\b");
        none(bare, "\\b(Object|Random|Thread|Runtime|Map|HashMap|Set|Optional|Stream|Exception|Error)\\b");
    }

    private static void face(String bare) {
        Set<String> seen = new TreeSet<>();
        Matcher publics = Pattern.compile("(?m)^( *)public ([^\n]*)$").matcher(bare);
        while (publics.find()) {
            String line = publics.group(2);
            Matcher name = Pattern.compile("(\\w+)\\s*[({=]").matcher(line);
            CHECK.holds("a name in " + line, name.find());
            seen.add(name.group(1));
        }
        Set<String> due = new TreeSet<>(FACE);
        due.add("ShareHouse");
        due.add("NONE");
        CHECK.holds("the face: " + seen, seen.equals(due));
        Matcher members = Pattern.compile("(?m)^    (?!public |private |\\}|//| |@)(\\S[^\n]*)$").matcher(bare);
        CHECK.holds("no other visible member" + (members.find() ? ": " + members.group(1) : ""), !members.reset().find());
        Matcher classes = Pattern.compile("(?m)^( *)([^\n]*)\\b(class|enum|interface|record) (\\w+)").matcher(bare);
        int count = 0;
        while (classes.find()) {
            count++;
            CHECK.holds("static: " + classes.group(4), classes.group(1).isEmpty() || classes.group(2).contains("static "));
        }
        CHECK.holds("at most twelve classes: " + count, count <= 12);
    }

    private static void methods(String bare) {
        String[] lines = bare.split("\n", -1);
        Pattern head = Pattern.compile("^( {4}| {8})(?!return|else|new|case)((?:[\\w\\[\\]]+ )*)(\\w+)\\(([^)]*)\\) \\{$");
        int found = 0;
        for (int i = 0; i < lines.length; i++) {
            Matcher m = head.matcher(lines[i]);
            if (!m.matches() || Set.of("if", "for", "while", "switch").contains(m.group(3))) {
                continue;
            }
            found++;
            String close = m.group(1) + "}";
            int end = i;
            while (end < lines.length && !lines[end].equals(close)) {
                end++;
            }
            CHECK.holds(m.group(3) + " has " + (end - i + 1) + " lines", end - i < MOST_LINES);
            int parameters = m.group(4).isEmpty() ? 0 : m.group(4).split(",").length;
            CHECK.holds(m.group(3) + " has " + parameters + " parameters", parameters <= 7);
            // A constructor's name is a class's: rows are made there, and no call makes any.
            String body = String.join("\n", List.of(lines).subList(i, Math.min(lines.length, end + 1)));
            CHECK.holds(m.group(3) + " makes nothing", Character.isUpperCase(m.group(3).charAt(0))
                || !Pattern.compile("\\bnew\\b|\\bcopyOf|\\bclone\\b").matcher(body).find());
            CHECK.holds(m.group(3) + " bears no public name",
                m.group(2).startsWith("public ") || !FACE.contains(m.group(3)));
        }
        CHECK.holds("methods: " + found, found > FACE.size());
    }
}
