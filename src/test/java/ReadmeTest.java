import java.io.File;
import java.io.IOException;
import java.lang.reflect.Method;
import java.lang.reflect.Modifier;
import java.nio.charset.StandardCharsets;
import java.nio.file.Files;
import java.nio.file.Path;
import java.util.ArrayList;
import java.util.List;
import java.util.regex.Matcher;
import java.util.regex.Pattern;
import java.util.stream.Collectors;
import java.util.stream.Stream;

/** What README.md shows must run, and answer what it says. */
public final class ReadmeTest {
    private static final Check CHECK = new Check("ReadmeTest");

    public static void main(String[] args) throws IOException, InterruptedException {
        String readme = Files.readString(Path.of("README.md"), StandardCharsets.UTF_8);
        List<String> java = blocks(readme, "java");
        List<String> texts = blocks(readme, "text");
        CHECK.same("programs in Java", java.size(), 1);
        CHECK.same("texts", texts.size(), 2);
        example(java.get(0), texts.get(0));
        language(texts.get(1));
        faults(readme);
        names(readme);
        CHECK.end();
    }

    private static List<String> blocks(String readme, String kind) {
        List<String> found = new ArrayList<>();
        Matcher m = Pattern.compile("(?s)```" + kind + "\n(.*?)```").matcher(readme);
        while (m.find()) {
            found.add(m.group(1));
        }
        return found;
    }

    private static void example(String source, String due) throws IOException, InterruptedException {
        Path folder = Files.createTempDirectory("readme");
        try {
            Path file = folder.resolve("Richer.java");
            Files.writeString(file, source, StandardCharsets.UTF_8);
            String told = run("javac", "-d", folder.toString(), "src/main/java/ShareHouse.java", file.toString());
            CHECK.holds("it compiles: " + told, told.isEmpty());
            told = run("java", "-cp", folder.toString(), "Richer");
            CHECK.holds("it tells " + told + " and not " + due, told.equals(due));
        } finally {
            try (Stream<Path> left = Files.walk(folder)) {
                left.sorted((a, b) -> b.compareTo(a)).map(Path::toFile).forEach(File::delete);
            }
        }
    }

    private static String run(String... command) throws IOException, InterruptedException {
        Process process = new ProcessBuilder(command).redirectErrorStream(true).start();
        String told = new String(process.getInputStream().readAllBytes(), StandardCharsets.UTF_8);
        CHECK.same("exit of " + command[0], process.waitFor(), 0);
        return told;
    }

    private static void language(String text) {
        int[][] bids = {{10, 20, 30, 22}, {7, 7, 7, 7}, {50, 40, 90, 90}, {1, 2, 3, 1}};
        for (int[] given : bids) {
            ShareHouse house = Check.built(2, 8, text);
            for (int w = 0; w < given.length; w++) {
                CHECK.holds("give(" + w + ")", house.give(w, given[w]));
            }
            int best = 0;
            for (int i = 1; i < 3; i++) {
                best = Math.abs(given[i] - given[3]) < Math.abs(given[best] - given[3]) ? i : best;
            }
            CHECK.same("outputs", house.look(6), 2);
            house.deal();
            Edges.finish(house);
            for (int p = 0; p < 2; p++) {
                CHECK.same("which bid is the nearest", house.told(p, 0), best);
                CHECK.same("whether it is the secret", house.told(p, 1), given[best] == given[3] ? 1 : 0);
            }
        }
    }

    /** A text for each FAULT that the table has. */
    private static void faults(String readme) {
        String steps = "for i=0to 255{for j=0to 255{var a:int;var b:int;}}";
        String[] texts = {"output 1;", "output;", "input a of 7:int;", "output " + "(".repeat(31) + "1" + ")".repeat(31) + ";",
            "output a;", "output !1;", "input a of 0:int;output 1<<a;", "output 1<<8;", steps};
        for (int fault = 0; fault < texts.length; fault++) {
            ShareHouse house = new ShareHouse(2, 8);
            CHECK.same("FAULT of " + texts[fault], Check.compile(house, texts[fault]), fault);
            CHECK.holds("README.md tells of FAULT " + fault, readme.contains("\n| " + fault + " | "));
        }
    }

    /** Each call of the face, and each test that there is. */
    private static void names(String readme) throws IOException {
        for (Method m : ShareHouse.class.getDeclaredMethods()) {
            if (Modifier.isPublic(m.getModifiers())) {
                CHECK.holds("README.md tells of " + m.getName(), readme.contains("`" + m.getName()));
            }
        }
        try (Stream<Path> files = Files.list(Path.of("src/test/java"))) {
            for (Path file : files.collect(Collectors.toList())) {
                String name = file.getFileName().toString().replace(".java", "");
                CHECK.holds("README.md tells of " + name, !name.endsWith("Test") || readme.contains("`" + name + "`"));
            }
        }
    }
}
