import java.io.IOException;
import java.nio.charset.StandardCharsets;
import java.nio.file.FileVisitOption;
import java.nio.file.Files;
import java.nio.file.Path;
import java.util.ArrayList;
import java.util.Comparator;
import java.util.List;
import java.util.regex.Matcher;
import java.util.regex.Pattern;
import java.util.stream.Stream;

/**
 * Follows README.md: its example and its commands run in a copy of the project, and its way to run all tests in small
 * projects with tests that pass or fail, since this test itself is one of those that it runs.
 */
public final class ReadmeTest {
    private static final Pattern BLOCK = Pattern.compile("(?m)^```(\\w+)\n(.*?)^```$", Pattern.DOTALL);
    private static final Pattern SAVED_AS = Pattern.compile("Save this as `(\\w+\\.java)`");
    private static final Path OWN_TEST = Path.of("src/test/java/OwnTest.java");
    private static final Path SHARED_TEST = Path.of("../shared/tests/SharedRuns.java");

    private static final String RUN_ALL = ".ci/run\n";

    private record Block(String language, String text) {
    }

    private record Run(int exitCode, String output) {
    }

    private final Checks checks = new Checks();
    private final String readme;
    private final List<Block> blocks = new ArrayList<>();
    private final Path top;

    private ReadmeTest(Path top) throws IOException {
        this.top = top;
        readme = Files.readString(Path.of("README.md"));
        Matcher matcher = BLOCK.matcher(readme);
        while (matcher.find()) {
            blocks.add(new Block(matcher.group(1), matcher.group(2)));
        }
    }

    public static void main(String[] args) throws IOException, InterruptedException {
        Path top = Files.createTempDirectory("readme");
        ReadmeTest test = new ReadmeTest(top);
        try {
            test.followBlocks();
            test.checkTestsNamed();
            test.checkMethodsNamed();
            test.checkRunAll();
        } finally {
            remove(top);
        }
        test.checks.end("ReadmeTest");
    }

    /** Runs each block of commands; a block of text behind one is what it prints. */
    private void followBlocks() throws IOException, InterruptedException {
        Path project = copyOfAll();
        saveExample(project);
        int commands = 0;
        int printed = 0;
        for (int k = 0; k < blocks.size(); k++) {
            String text = blocks.get(k).text();
            if (blocks.get(k).language().equals("sh") && !text.equals(RUN_ALL)) {
                commands++;
                Run run = run(project, text);
                checks.due("the exit code of\n" + text + run.output(), 0, run::exitCode);
                if (k + 1 < blocks.size() && blocks.get(k + 1).language().equals("text")) {
                    printed++;
                    checks.due("the output of\n" + text, blocks.get(k + 1).text(), run::output);
                }
            }
        }
        int commandsFound = commands;
        int printedFound = printed;
        checks.due("blocks of commands but the one for all tests", 3, () -> commandsFound);
        checks.due("blocks of commands with what they print", 1, () -> printedFound);
        checks.due("blocks for all tests", 1L, () -> blocks.stream().filter(b -> b.text().equals(RUN_ALL)).count());
    }

    private void saveExample(Path project) throws IOException {
        Matcher name = SAVED_AS.matcher(readme);
        List<Block> examples = blocks.stream().filter(block -> block.language().equals("java")).toList();
        checks.due("examples", 1, examples::size);
        checks.due("a name to save the example as", true, name::find);
        Files.writeString(project.resolve(name.group(1)), examples.get(0).text());
    }

    /** Each file with tests is told of. */
    private void checkTestsNamed() throws IOException {
        try (Stream<Path> files = Files.list(Path.of("src/test/java"))) {
            for (Path file : files.toList()) {
                String name = file.getFileName().toString().replace(".java", "");
                if (name.matches("\\w+(Test|Edges)")) {
                    checks.due("README.md tells of " + name, true, () -> readme.contains("`" + name + "`"));
                }
            }
        }
    }

    /** Each method stands in its group, as the document says it of the interface. */
    private void checkMethodsNamed() throws IOException {
        String inOneLine = readme.replaceAll("\\s+", " ");
        Document document = new Document(Path.of("../shared/DOC.md"));
        List<Document.Group> groups = document.groups();
        checks.due("groups", 4, groups::size);
        for (Document.Group group : groups) {
            String line = "- " + group.title() + ": `" + String.join("`, `", group.calls()) + "`.";
            checks.due("README.md has " + line, true, () -> inOneLine.contains(line));
        }
    }

    /** The way to run all tests passes if all pass, and fails if one fails or does not compile. */
    private void checkRunAll() throws IOException, InterruptedException {
        Run run = run(smallProject("passing"), RUN_ALL);
        checks.due("all tests pass: the exit code\n" + run.output(), 0, run::exitCode);
        for (String line : new String[] {"own 0", "passed: OwnTest", "shared 0", "passed: ../shared/tests/SharedRuns",
            "2 passed, 0 failed"}) {
            checks.due("all tests pass: the line " + line, true, () -> run.output().lines().toList().contains(line));
        }

        Path project = smallProject("own");
        Files.writeString(project.resolve(OWN_TEST), program("OwnTest", "own", 1));
        dueFailed(project, "1 passed, 1 failed");

        project = smallProject("shared");
        Files.writeString(project.resolve(SHARED_TEST), program("SharedRuns", "shared", 1));
        dueFailed(project, "1 passed, 1 failed");

        project = smallProject("uncompiled");
        Files.writeString(project.resolve(OWN_TEST), "no Java");
        Files.writeString(project.resolve(SHARED_TEST), "no Java");
        dueFailed(project, "0 passed, 2 failed");

        project = smallProject("untested");
        Files.delete(project.resolve(SHARED_TEST));
        dueFailed(project, "1 passed, 1 failed");
    }

    private void dueFailed(Path project, String lastLine) throws IOException, InterruptedException {
        Run run = run(project, RUN_ALL);
        checks.due(project.getParent() + ": the exit code\n" + run.output(), 1, run::exitCode);
        checks.due(project.getParent() + ": the last line", true, () -> run.output().endsWith(lastLine + "\n"));
    }

    /** A project with the script, an empty class, a test of its own and a shared one; both pass. */
    private Path smallProject(String name) throws IOException {
        Path project = top.resolve(name + "/main");
        copy(Path.of(".ci"), project.resolve(".ci"));
        Files.createDirectories(project.resolve("src/main/java"));
        Files.createDirectories(project.resolve(OWN_TEST).getParent());
        Files.createDirectories(project.resolveSibling("shared/tests"));
        Files.writeString(project.resolve("src/main/java/IceConvoys.java"), "public final class IceConvoys { }\n");
        Files.writeString(project.resolve(OWN_TEST), program("OwnTest", "own", 0));
        Files.writeString(project.resolve(SHARED_TEST), program("SharedRuns", "shared", 0));
        return project;
    }

    private static String program(String name, String word, int exitCode) {
        return "public final class " + name + " {\n"
            + "    public static void main(String[] args) {\n"
            + "        new IceConvoys();\n"
            + "        System.out.println(\"" + word + " " + exitCode + "\");\n"
            + "        System.exit(" + exitCode + ");\n"
            + "    }\n"
            + "}\n";
    }

    private Path copyOfAll() throws IOException {
        Path project = top.resolve("all/main");
        copy(Path.of("src"), project.resolve("src"));
        copy(Path.of("../shared"), project.resolveSibling("shared"));
        return project;
    }

    private static void copy(Path from, Path to) throws IOException {
        try (Stream<Path> files = Files.walk(from, FileVisitOption.FOLLOW_LINKS)) {
            for (Path file : files.filter(Files::isRegularFile).toList()) {
                Path copied = to.resolve(from.relativize(file).toString());
                Files.createDirectories(copied.getParent());
                Files.write(copied, Files.readAllBytes(file));
                copied.toFile().setExecutable(Files.isExecutable(file));
            }
        }
    }

    private static Run run(Path directory, String commands) throws IOException, InterruptedException {
        Process process = new ProcessBuilder("bash", "-e", "-c", commands)
            .directory(directory.toFile()).redirectErrorStream(true).start();
        process.getOutputStream().close();
        String output = new String(process.getInputStream().readAllBytes(), StandardCharsets.UTF_8);
        return new Run(process.waitFor(), output);
    }

    private static void remove(Path top) throws IOException {
        try (Stream<Path> files = Files.walk(top)) {
            for (Path file : files.sorted(Comparator.reverseOrder()).toList()) {
                Files.delete(file);
            }
        }
    }
}
