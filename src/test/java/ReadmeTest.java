import java.io.IOException;
import java.nio.file.Files;
import java.nio.file.Path;
import java.util.ArrayList;
import java.util.Comparator;
import java.util.List;
import java.util.regex.Matcher;
import java.util.regex.Pattern;
import java.util.stream.Stream;

/** What README.md says is tried: its program, its commands, and the answers behind its calls. */
public final class ReadmeTest {
    private static final String ALL_TESTS = "bash .ci/run";
    private static final String PROGRAM = "YourProgram";

    public static void main(String[] args) throws IOException, InterruptedException {
        String readme = Files.readString(Path.of("README.md"));
        // The commands are run in a directory of their own, for they leave classes behind.
        Path place = Files.createTempDirectory("readme");
        try {
            Files.createSymbolicLink(place.resolve("src"), Path.of("src").toAbsolutePath());
            programs(readme, place);
            commands(readme, place);
        } finally {
            remove(place);
        }
        names(readme);
        Due.end();
    }

    private static List<String> blocks(String readme, String language) {
        List<String> found = new ArrayList<>();
        Matcher block = Pattern.compile("(?ms)^```" + language + "\n(.*?)^```$").matcher(readme);
        while (block.find()) {
            found.add(block.group(1));
        }
        return found;
    }

    private static void programs(String readme, Path place) throws IOException {
        List<String> programs = blocks(readme, "java");
        Due.is("programs in README.md", 1, programs.size());
        Files.writeString(place.resolve(PROGRAM + ".java"), String.join("\n", programs));
    }

    private static void commands(String readme, Path place) throws IOException, InterruptedException {
        int ofAllTests = 0;
        int ofProgram = 0;
        for (String block : blocks(readme, "sh")) {
            for (String command : block.split("\n")) {
                if (command.equals(ALL_TESTS)) {
                    // This test is itself a part of it.
                    ofAllTests++;
                    Due.isTrue(".ci/run is executable", Files.isExecutable(Path.of(".ci/run")));
                    continue;
                }
                List<String> got = run(command, place);
                if (command.endsWith(" " + PROGRAM)) {
                    ofProgram++;
                    answers(blocks(readme, "java").get(0), got);
                }
            }
        }
        Due.is("commands for all tests", 1, ofAllTests);
        Due.is("commands for the program", 1, ofProgram);
    }

    private static List<String> run(String command, Path place) throws IOException, InterruptedException {
        Path printed = place.resolve("printed");
        Process process = new ProcessBuilder("bash", "-c", command).directory(place.toFile())
                .redirectErrorStream(true).redirectOutput(printed.toFile()).start();
        int code = process.waitFor();
        List<String> lines = Files.readAllLines(printed);
        Due.note(code == 0, command + " ended with " + code + " and printed " + lines);
        return lines;
    }

    /** Each line that prints has its answer behind it: up to a colon, or alone. */
    private static void answers(String program, List<String> got) {
        List<String> calls = program.lines().filter(line -> line.contains("println(")).toList();
        Due.isTrue("the program prints something", !calls.isEmpty());
        Due.is("lines that the program prints", calls.size(), got.size());
        for (int i = 0; i < calls.size() && i < got.size(); i++) {
            Matcher call = Pattern.compile("println\\((.*)\\);\\s*// ([^:]+)(:.*)?").matcher(calls.get(i).trim());
            boolean isTold = call.find();
            Due.note(isTold, "README.md tells no answer of " + calls.get(i).trim());
            if (isTold) {
                Due.note(call.group(2).equals(got.get(i)),
                        call.group(1) + ": answered " + got.get(i) + ", README.md says " + call.group(2));
            }
        }
    }

    /** The tests that README.md names are those that there are. */
    private static void names(String readme) throws IOException {
        try (Stream<Path> files = Files.list(Path.of("src/test/java"))) {
            files.map(file -> file.getFileName().toString()).filter(file -> file.endsWith("Test.java"))
                    .map(file -> "`" + file.replace(".java", "") + "`")
                    .forEach(name -> Due.isTrue("README.md names " + name, readme.contains(name)));
        }
        Matcher name = Pattern.compile("`(\\w+Test)`").matcher(readme);
        while (name.find()) {
            Due.isTrue(name.group() + " is there", Files.exists(Path.of("src/test/java", name.group(1) + ".java")));
        }
        Matcher path = Pattern.compile("`((?:\\.\\./shared|src)/[\\w./]+)`").matcher(readme);
        while (path.find()) {
            Due.isTrue(path.group() + " is there", Files.exists(Path.of(path.group(1))));
        }
    }

    private static void remove(Path place) throws IOException {
        List<Path> paths;
        try (Stream<Path> walk = Files.walk(place)) {
            paths = walk.sorted(Comparator.reverseOrder()).toList();
        }
        for (Path path : paths) {
            Files.delete(path);
        }
    }
}
