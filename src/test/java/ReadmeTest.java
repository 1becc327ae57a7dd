import java.io.IOException;
import java.lang.reflect.Method;
import java.lang.reflect.Modifier;
import java.nio.file.Files;
import java.nio.file.Path;
import java.util.ArrayList;
import java.util.List;
import java.util.TreeSet;
import java.util.regex.Matcher;
import java.util.regex.Pattern;

/** What README.md says of using the class and of running its tests, done as it is written there. */
public final class ReadmeTest {
    private record Block(String kind, String text) {
    }

    private static final Pattern BLOCK = Pattern.compile("^```(\\w+)\n(.*?)^```$", Pattern.DOTALL | Pattern.MULTILINE);
    private static final Pattern ROW = Pattern.compile("^\\| `(\\w+)\\(([^)]*)\\)` \\|", Pattern.MULTILINE);
    private static final Pattern TEST = Pattern.compile("^- (`.*?):", Pattern.MULTILINE);
    private static final String WHOLE_RUN = ".ci/run\n";

    private static final Check CHECK = new Check("ReadmeTest");

    public static void main(String[] args) throws IOException {
        String readme = Files.readString(Path.of("README.md"));
        List<Block> blocks = blocksOf(readme);
        CHECK.due("programs to save", 1L, () -> blocks.stream().filter(block -> block.kind.equals("java")).count());
        CHECK.due("the table has every method", faceAsTold(), () -> rowsOf(readme));
        CHECK.due("the tests that are told", testsThatStand(), () -> testsTold(readme));
        CHECK.due("the tests that .ci/run runs", testsThatStand(), ReadmeTest::testsThatRun);
        CHECK.due(".ci/run can be run", true, () -> Files.isExecutable(Path.of(".ci/run")));
        followIn(Files.createTempDirectory("readme"), blocks);
        CHECK.end();
    }

    private static List<Block> blocksOf(String readme) {
        List<Block> blocks = new ArrayList<>();
        Matcher found = BLOCK.matcher(readme);
        while (found.find()) {
            blocks.add(new Block(found.group(1), found.group(2)));
        }
        return blocks;
    }

    private static TreeSet<String> faceAsTold() {
        TreeSet<String> calls = new TreeSet<>();
        calls.add("CornerLabels 0");
        for (Method method : CornerLabels.class.getDeclaredMethods()) {
            if (Modifier.isPublic(method.getModifiers())) {
                calls.add(method.getName() + " " + method.getParameterCount());
            }
        }
        return calls;
    }

    private static TreeSet<String> rowsOf(String readme) {
        TreeSet<String> calls = new TreeSet<>();
        Matcher row = ROW.matcher(readme.replace("`new CornerLabels", "`CornerLabels"));
        while (row.find()) {
            int arguments = row.group(2).isEmpty() ? 0 : row.group(2).split(", ").length;
            calls.add(row.group(1) + " " + arguments);
        }
        return calls;
    }

    private static TreeSet<String> testsThatStand() throws IOException {
        TreeSet<String> names = new TreeSet<>();
        try (var files = Files.list(Path.of("src/test/java"))) {
            for (Path file : files.toList()) {
                if (Files.readString(file).contains("static void main(")) {
                    names.add(file.getFileName().toString().replace(".java", ""));
                }
            }
        }
        return names;
    }

    private static TreeSet<String> testsTold(String readme) {
        TreeSet<String> names = new TreeSet<>();
        Matcher told = TEST.matcher(readme);
        while (told.find()) {
            names.addAll(List.of(told.group(1).replace("`", "").split(", ")));
        }
        return names;
    }

    private static TreeSet<String> testsThatRun() {
        Matcher listed = Pattern.compile("^for test in (.*); do$", Pattern.MULTILINE).matcher(textOf(Path.of(".ci/run")));
        return listed.find() ? new TreeSet<>(List.of(listed.group(1).split(" "))) : new TreeSet<>();
    }

    /** Follows the page in a directory that sees the project's files beside its own, so that it leaves no trace. */
    private static void followIn(Path top, List<Block> blocks) throws IOException {
        Path project = Files.createDirectory(top.resolve("project"));
        Files.createSymbolicLink(project.resolve("src"), Path.of("src").toAbsolutePath());
        Files.createSymbolicLink(top.resolve("shared"), Path.of("../shared").toRealPath());
        Path example = project.resolve("Example.java");
        int commands = 0;
        for (int index = 0; index < blocks.size(); index++) {
            Block block = blocks.get(index);
            if (block.kind.equals("java")) {
                Files.writeString(example, block.text);
            }
            if (block.kind.equals("sh") && !block.text.equals(WHOLE_RUN)) {
                commands++;
                follow(project, block.text, index + 1 < blocks.size() ? blocks.get(index + 1) : block);
            }
        }
        int followed = commands;
        CHECK.due("commands that were followed", 3, () -> followed);
        for (Path gone : new Path[] {example, project.resolve("src"), project, top.resolve("shared"), top}) {
            Files.deleteIfExists(gone);
        }
    }

    private static void follow(Path project, String commands, Block next) {
        // the page's own commands leave their classes to the machine; here they are taken away
        String script = "set -e\ntrap 'rm -rf \"$out\"' EXIT\n" + commands;
        StringBuilder printed = new StringBuilder();
        CHECK.due(commands, 0, () -> exitCodeOf(project, script, printed));
        if (next.kind.equals("text")) {
            CHECK.due("what that prints", next.text, printed::toString);
        }
    }

    private static int exitCodeOf(Path project, String script, StringBuilder printed) {
        try {
            Process shell = new ProcessBuilder("sh", "-c", script).directory(project.toFile())
                    .redirectError(ProcessBuilder.Redirect.INHERIT).start();
            printed.append(new String(shell.getInputStream().readAllBytes()));
            return shell.waitFor();
        } catch (IOException | InterruptedException failed) {
            throw new IllegalStateException(failed);
        }
    }

    private static String textOf(Path file) {
        try {
            return Files.readString(file);
        } catch (IOException failed) {
            throw new IllegalStateException(failed);
        }
    }
}
