import java.io.File;
import java.io.IOException;
import java.nio.file.Files;
import java.nio.file.Path;
import java.util.ArrayList;
import java.util.Comparator;
import java.util.List;
import java.util.stream.Collectors;
import java.util.stream.Stream;

/** README.md's program, commands and output: the program is compiled and run as it stands there, by those commands. */
public final class ReadmeTest {
    private static final String CLASS = "src/main/java/PairedTumblers.java";
    private static final String PROGRAM = "YourProgram.java";

    private static final Checks checks = new Checks("readme");

    public static void main(String[] args) throws IOException, InterruptedException {
        List<String> lines = Files.readAllLines(Path.of("README.md"));
        List<String> blocks = blocksUnder(lines, "## How to use it");
        checks.same("blocks of the usage", 3, blocks.size());
        if (blocks.size() == 3) {
            usage(blocks);
        }
        checks.sameText("how to run the tests", "bash .ci/run\n",
            String.join("", blocksUnder(lines, "## How to run its tests")));
        checks.same(".ci/run is executable", 1, Files.isExecutable(Path.of(".ci/run")) ? 1 : 0);
        everyTestIsTold(lines);
        checks.end();
    }

    /** The fenced texts between a heading and the next one. */
    private static List<String> blocksUnder(List<String> lines, String heading) {
        List<String> blocks = new ArrayList<>();
        StringBuilder block = null;
        int begin = lines.indexOf(heading);
        for (int i = begin + 1; begin >= 0 && i < lines.size() && !lines.get(i).startsWith("## "); i++) {
            if (!lines.get(i).startsWith("```")) {
                if (block != null) {
                    block.append(lines.get(i)).append('\n');
                }
            } else if (block == null) {
                block = new StringBuilder();
            } else {
                blocks.add(block.toString());
                block = null;
            }
        }
        return blocks;
    }

    private static void usage(List<String> blocks) throws IOException, InterruptedException {
        Path checkout = Files.createTempDirectory("readme");
        try {
            Files.createDirectories(checkout.resolve(CLASS).getParent());
            Files.copy(Path.of(CLASS), checkout.resolve(CLASS));
            Files.writeString(checkout.resolve(PROGRAM), blocks.get(0));
            StringBuilder printed = new StringBuilder();
            for (String command : blocks.get(1).split("\n")) {
                printed.append(printedBy(command, checkout));
            }
            checks.sameText("the program", blocks.get(2), printed.toString());
        } finally {
            remove(checkout);
        }
    }

    private static String printedBy(String command, Path folder) throws IOException, InterruptedException {
        Process process = new ProcessBuilder(command.split(" "))
            .directory(folder.toFile()).redirectErrorStream(true).start();
        String printed = new String(process.getInputStream().readAllBytes());
        checks.same(command + " ended", 0, process.waitFor());
        return printed.replace(System.lineSeparator(), "\n");
    }

    private static void remove(Path folder) throws IOException {
        try (Stream<Path> all = Files.walk(folder)) {
            all.sorted(Comparator.reverseOrder()).map(Path::toFile).forEach(File::delete);
        }
    }

    private static void everyTestIsTold(List<String> lines) throws IOException {
        List<String> told = new ArrayList<>();
        for (String line : lines) {
            if (line.startsWith("| `")) {
                told.add(line.split("`")[1]);
            }
        }
        try (Stream<Path> all = Files.list(Path.of("src/test/java"))) {
            String tests = all.map(path -> path.getFileName().toString()).filter(name -> name.endsWith("Test.java"))
                .map(name -> name.replace(".java", "")).sorted().collect(Collectors.joining(" "));
            checks.sameText("the tests told", tests, told.stream().sorted().collect(Collectors.joining(" ")));
        }
    }
}
