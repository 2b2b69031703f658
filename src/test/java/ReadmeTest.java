import java.io.IOException;
import java.nio.file.Files;
import java.nio.file.Path;
import java.util.ArrayList;
import java.util.Comparator;
import java.util.List;
import java.util.TreeSet;
import java.util.regex.Matcher;
import java.util.regex.Pattern;
import java.util.stream.Stream;

/** What README.md says: its calls compile and answer as it tells, its commands run, its table has every test. */
public final class ReadmeTest {
    private static final Pattern BLOCK = Pattern.compile("```(\\w+)\n(.*?)```", Pattern.DOTALL);
    private static final Pattern ANSWER = Pattern.compile("(?:int|double) (\\w+) = garden\\..*; +// (-?[\\d.]+)(?:,.*)?");

    private static List<String> blocks(String readme, String language) {
        List<String> blocks = new ArrayList<>();
        Matcher block = BLOCK.matcher(readme);
        while (block.find()) {
            if (block.group(1).equals(language)) {
                blocks.add(block.group(2));
            }
        }
        return blocks;
    }

    private static int exitCode(String... command) throws IOException, InterruptedException {
        return new ProcessBuilder(command).inheritIO().start().waitFor();
    }

    /** A program of the page's calls that ends with exit code 1 if an answer is another one, or a refused call is not. */
    private static String program(String calls) {
        StringBuilder program = new StringBuilder("public final class Page {\n"
            + "    static void is(String call, double got, double want) {\n"
            + "        if (got != want) {\n"
            + "            throw new RuntimeException(call + \" answered \" + got);\n"
            + "        }\n"
            + "    }\n\n"
            + "    public static void main(String[] args) {\n");
        for (String line : calls.split("\n")) {
            program.append(line).append('\n');
            Matcher answer = ANSWER.matcher(line);
            if (answer.matches()) {
                String name = answer.group(1);
                program.append("is(\"" + name + "\", " + name + ", " + answer.group(2) + ");\n");
            } else if (line.strip().startsWith("garden.")) {
                program.append("is(\"what is to be refused\", 0, 1);\n");
            }
        }
        return program.append("    }\n}\n").toString();
    }

    private static void calls(String readme, Path folder) throws IOException, InterruptedException {
        for (String calls : blocks(readme, "java")) {
            long told = calls.lines().filter(line -> line.contains("= garden.")).count();
            long checked = calls.lines().filter(line -> ANSWER.matcher(line).matches()).count();
            Due.is("calls of the page with their answers", checked, told);
            Path page = Files.writeString(folder.resolve("Page.java"), program(calls));
            int compiled = exitCode("javac", "-d", folder.toString(), "src/main/java/FlushGarden.java", page.toString());
            Due.is("exit code of compiling the page's calls", compiled, 0);
            Due.is("exit code of running them", exitCode("java", "-cp", folder.toString(), "Page"), 0);
        }
    }

    /** Each block by itself, in a folder of this test instead of the page's, so that two runs do not meet. */
    private static void commands(String readme, Path folder) throws IOException, InterruptedException {
        for (String commands : blocks(readme, "sh")) {
            if (commands.equals(".ci/run\n")) {
                Due.is(".ci/run can be run", Files.isExecutable(Path.of(".ci/run")) ? 1 : 0, 1);
            } else {
                Due.is("exit code of\n" + commands, exitCode("bash", "-ec", commands.replace("/tmp/", folder + "/")), 0);
            }
        }
    }

    private static void table(String readme) throws IOException {
        TreeSet<String> tests = new TreeSet<>();
        try (Stream<Path> files = Files.list(Path.of("src/test/java"))) {
            files.map(file -> file.getFileName().toString().replace(".java", ""))
                .filter(name -> name.endsWith("Test")).forEach(tests::add);
        }
        TreeSet<String> told = new TreeSet<>();
        readme.lines().filter(line -> line.startsWith("| `")).forEach(line -> told.add(line.split("`")[1]));
        Due.isText("the tests of the page's table", told.toString(), tests.toString());
    }

    private static void delete(Path folder) throws IOException {
        try (Stream<Path> files = Files.walk(folder)) {
            for (Path file : files.sorted(Comparator.reverseOrder()).toList()) {
                Files.delete(file);
            }
        }
    }

    public static void main(String[] args) throws IOException, InterruptedException {
        String readme = Files.readString(Path.of("README.md"));
        Due.is("blocks of calls", blocks(readme, "java").size(), 1);
        Due.is("blocks of commands", blocks(readme, "sh").size(), 3);
        Path folder = Files.createTempDirectory("readme");
        calls(readme, folder);
        commands(readme, folder);
        table(readme);
        delete(folder);
        Due.end();
    }
}
