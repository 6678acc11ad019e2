import java.io.File;
import java.io.IOException;
import java.nio.charset.StandardCharsets;
import java.nio.file.Files;
import java.nio.file.Path;
import java.util.ArrayList;
import java.util.Arrays;
import java.util.List;
import java.util.Map;
import java.util.TreeMap;
import java.util.concurrent.ExecutorService;
import java.util.concurrent.Executors;
import java.util.concurrent.Future;
import java.util.concurrent.TimeUnit;
import java.util.regex.Matcher;
import java.util.regex.Pattern;
import java.util.stream.Collectors;
import java.util.stream.Stream;
import javax.tools.JavaCompiler;
import javax.tools.ToolProvider;

/**
 * No test, but a trial of them, run by hand: for each sentence that has a test of its own the class is broken in the way
 * that src/test/broken tells, and that sentence's own test must fail then; and no sentence of the document may be without
 * one. It goes by the text of the class: when that changes, src/test/broken is to be changed with it.
 */
public final class Broken {
    private static final String[] TESTS = {"ReadingEdgesTest", "SortsEdgesTest", "MeaningEdgesTest", "CircuitEdgesTest",
        "BuildingEdgesTest", "DealEdgesTest", "PromiseEdgesTest", "PlainTest"};
    /** Headings, the lines that the public face has already, and what the document leaves free: no test can fail there. */
    private static final String NOTHING_TO_TEST = "# ShareHouse ## What it is |; what later calls answer is free\\. |"
        + "## The public face |```(java|text)? |## Terms |---- THE (LANGUAGE|CIRCUIT|DEALER|PARTIES)\\. |READING\\. FAULTS, |"
        + "MEANING\\. |## Promise \\d+: [\\w ]+( `[^`]*`:)? |## Not promised .*";
    private static final int MOST_SECONDS = 120;

    /** Lines of the class, and what stands in their place then. */
    private record Edit(List<String> old, List<String> instead) {
    }

    public static void main(String[] args) throws Exception {
        String source = Files.readString(Path.of("src/main/java/ShareHouse.java"), StandardCharsets.UTF_8);
        Map<String, List<Edit>> ways = ways();
        Map<String, String> sentences = sentences();
        List<String> wrong = new ArrayList<>();
        String document = blanked(Files.readString(Path.of("../shared/DOC.md"), StandardCharsets.UTF_8));
        sentences.forEach((key, sentence) -> {
            if (!document.contains(blanked(sentence))) {
                wrong.add(key + ": the document does not say: " + sentence);
            }
            if (!ways.containsKey(key)) {
                wrong.add(key + ": src/test/broken has no way to break it");
            }
        });
        wrong.addAll(untested(document, sentences));
        ways.keySet().stream().filter(key -> !sentences.containsKey(key)).forEach(key -> wrong.add(key + ": no such test"));
        ExecutorService threads = Executors.newFixedThreadPool(Runtime.getRuntime().availableProcessors());
        Map<String, Future<String>> outcomes = new TreeMap<>();
        ways.forEach((key, edits) -> outcomes.put(key, threads.submit(() -> outcome(key, source, edits))));
        int caught = 0;
        for (Map.Entry<String, Future<String>> each : outcomes.entrySet()) {
            String told = each.getValue().get();
            if (told.isEmpty()) {
                caught++;
            } else {
                wrong.add(each.getKey() + ": " + told);
            }
        }
        threads.shutdown();
        wrong.forEach(System.out::println);
        System.out.println("Broken: " + sentences.size() + " sentences, " + caught + " breaks caught by the sentence's own test, "
            + wrong.size() + " not as due");
        if (!wrong.isEmpty()) {
            System.exit(1);
        }
    }

    private static String blanked(String text) {
        return text.replaceAll("\\s+", " ");
    }

    /** What of the document is neither in a sentence that has a test nor without anything to test. */
    private static List<String> untested(String document, Map<String, String> sentences) {
        boolean[] seen = new boolean[document.length()];
        for (String sentence : sentences.values()) {
            String part = blanked(sentence);
            for (int from = document.indexOf(part); from >= 0; from = document.indexOf(part, from + 1)) {
                Arrays.fill(seen, from, from + part.length(), true);
            }
        }
        Matcher free = Pattern.compile(NOTHING_TO_TEST).matcher(document);
        while (free.find()) {
            Arrays.fill(seen, free.start(), free.end(), true);
        }
        StringBuilder left = new StringBuilder();
        for (int i = 0; i < document.length(); i++) {
            left.append(seen[i] ? '\n' : document.charAt(i));
        }
        return Arrays.stream(left.toString().split("\n+")).filter(part -> Pattern.compile("\\w").matcher(part).find())
            .map(part -> "no test has: " + part).collect(Collectors.toList());
    }

    private static Map<String, List<Edit>> ways() throws IOException {
        Map<String, List<Edit>> all = new TreeMap<>();
        try (Stream<Path> files = Files.list(Path.of("src/test/broken"))) {
            for (Path file : files.sorted().collect(Collectors.toList())) {
                List<Edit> edits = null;
                for (String line : Files.readAllLines(file, StandardCharsets.UTF_8)) {
                    if (line.startsWith("- ")) {
                        if (edits.isEmpty() || !edits.get(edits.size() - 1).instead().isEmpty()) {
                            edits.add(new Edit(new ArrayList<>(), new ArrayList<>()));
                        }
                        edits.get(edits.size() - 1).old().add(line.substring(2));
                    } else if (line.startsWith("+ ")) {
                        edits.get(edits.size() - 1).instead().add(line.substring(2));
                    } else if (!line.isBlank()) {
                        edits = new ArrayList<>();
                        all.put(line.trim(), edits);
                    }
                }
            }
        }
        return all;
    }

    private static Map<String, String> sentences() throws IOException, InterruptedException {
        Map<String, String> all = new TreeMap<>();
        for (String test : TESTS) {
            Process process = new ProcessBuilder("java", "-cp", System.getProperty("java.class.path"), test, "list")
                .redirectErrorStream(true).start();
            for (String line : new String(process.getInputStream().readAllBytes(), StandardCharsets.UTF_8).split("\n")) {
                String[] parts = line.split("\t");
                all.put(groupOf(test) + "." + parts[1], parts[2].trim());
            }
            process.waitFor();
        }
        return all;
    }

    private static String groupOf(String test) {
        return test.replaceAll("(Edges)?Test$", "");
    }

    /** Empty if the break is caught, else what went otherwise. */
    private static String outcome(String key, String source, List<Edit> edits) throws IOException, InterruptedException {
        String text = source;
        for (Edit edit : edits) {
            // A line's own blanks at its ends do not count.
            String regex = edit.old().stream().map(Pattern::quote).collect(Collectors.joining("\\s+"));
            Matcher found = Pattern.compile(regex).matcher(text);
            if (!found.find()) {
                return "the class has no " + edit.old();
            }
            int from = found.start();
            int to = found.end();
            if (found.find()) {
                return "the class has more than one " + edit.old();
            }
            text = text.substring(0, from) + String.join("\n", edit.instead()) + text.substring(to);
        }
        Path folder = Files.createTempDirectory("broken");
        try {
            Path file = folder.resolve("ShareHouse.java");
            Files.writeString(file, text, StandardCharsets.UTF_8);
            JavaCompiler compiler = ToolProvider.getSystemJavaCompiler();
            if (compiler.run(null, null, null, "-nowarn", "-d", folder.toString(), file.toString()) != 0) {
                return "it does not compile";
            }
            return tried(key, folder);
        } finally {
            try (Stream<Path> left = Files.walk(folder)) {
                left.sorted((a, b) -> b.compareTo(a)).map(Path::toFile).forEach(File::delete);
            }
        }
    }

    private static String tried(String key, Path folder) throws IOException, InterruptedException {
        String[] parts = key.split("\\.");
        String test = Arrays.stream(TESTS).filter(each -> groupOf(each).equals(parts[0])).findFirst().orElseThrow();
        Process process = new ProcessBuilder("java", "-XX:+UseSerialGC", "-Xss1m", "-cp",
            folder + File.pathSeparator + System.getProperty("java.class.path"), test, parts[1])
            .redirectErrorStream(true).redirectOutput(ProcessBuilder.Redirect.DISCARD).start();
        if (!process.waitFor(MOST_SECONDS, TimeUnit.SECONDS)) {
            process.destroyForcibly();
            return "its test does not end";
        }
        return process.exitValue() == 1 ? "" : "its test does not fail";
    }
}
