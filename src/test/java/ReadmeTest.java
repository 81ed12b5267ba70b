import java.io.File;
import java.io.IOException;
import java.lang.reflect.Method;
import java.lang.reflect.Modifier;
import java.nio.file.Files;
import java.nio.file.Path;
import java.util.ArrayList;
import java.util.Comparator;
import java.util.List;
import java.util.regex.Matcher;
import java.util.regex.Pattern;
import java.util.stream.Stream;

/** What README.md says: its Java answers what stands behind it, its commands run, its tables name all that there is. */
public final class ReadmeTest {
    private static final Pattern BLOCK = Pattern.compile("```(\\w+)\n(.*?)```", Pattern.DOTALL);
    // A call, and behind it what it answers.
    private static final Pattern ANSWER = Pattern.compile("(\\w.*?); *// (-?\\d+|true|false)(:.*)?");

    public static void main(String[] args) throws IOException, InterruptedException {
        Path root = Path.of(System.getProperty("leftshoes.source", "src/main/java/LeftShoes.java")).toAbsolutePath().getParent().getParent().getParent().getParent();
        String readme = Files.readString(root.resolve("README.md"));
        Path temporary = Files.createTempDirectory("readme");
        try {
            javaBlocks(readme, temporary);
            commands(readme, root, temporary);
        } finally {
            remove(temporary);
        }
        tests(readme, root);
        calls(readme);
        Due.end();
    }

    private static List<String> blocks(String readme, String language) {
        List<String> found = new ArrayList<>();
        Matcher m = BLOCK.matcher(readme);
        while (m.find()) if (m.group(1).equals(language)) found.add(m.group(2));
        return found;
    }

    private static void javaBlocks(String readme, Path temporary) throws IOException, InterruptedException {
        StringBuilder helpers = new StringBuilder();
        StringBuilder bodies = new StringBuilder();
        int answers = 0;
        for (String block : blocks(readme, "java")) {
            if (block.startsWith("static ")) {
                helpers.append(block);
                continue;
            }
            bodies.append("{\n");
            for (String line : block.split("\n")) {
                Matcher m = ANSWER.matcher(line);
                boolean answer = m.matches() && !m.group(1).contains(" = ");
                if (answer) {
                    answers++;
                    bodies.append("due(").append(answers).append(", String.valueOf(").append(m.group(1)).append("), \"").append(m.group(2)).append("\");\n");
                } else {
                    bodies.append(line).append('\n');
                }
            }
            bodies.append("}\n");
        }
        Due.is("answers in the Java of README.md", answers > 20, true);
        Path source = temporary.resolve("Readme.java");
        Files.writeString(source, "public final class Readme {\nstatic int wrong;\n" + helpers
            + "static void due(int n, String got, String want) { if (!got.equals(want)) { wrong++; System.out.println(\"answer \" + n + \" of README.md: \" + got + \", it says \" + want); } }\n"
            + "public static void main(String[] args) {\n" + bodies + "if (wrong != 0) System.exit(1);\n}\n}\n");
        String path = System.getProperty("java.class.path");
        Due.is("javac of the Java of README.md", run(temporary, temporary, "javac", "-cp", path, "-d", temporary.toString(), source.toString()), 0);
        Due.is("the Java of README.md", run(temporary, temporary, "java", "-cp", path + File.pathSeparator + temporary, "Readme"), 0);
    }

    // .ci/run is what runs this test, so it is not run once more.
    private static void commands(String readme, Path root, Path temporary) throws IOException, InterruptedException {
        List<String> blocks = blocks(readme, "sh");
        Due.is("commands in README.md", blocks.size(), 2);
        for (String block : blocks) {
            if (block.strip().equals(".ci/run")) Due.is(".ci/run can be run", Files.isExecutable(root.resolve(".ci/run")), true);
            else Due.is(block, run(root, temporary, "sh", "-e", "-c", block), 0);
        }
    }

    private static int run(Path where, Path temporary, String... command) throws IOException, InterruptedException {
        ProcessBuilder builder = new ProcessBuilder(command).directory(where.toFile()).inheritIO();
        builder.environment().put("TMPDIR", temporary.toString());
        return builder.start().waitFor();
    }

    private static void tests(String readme, Path root) throws IOException {
        try (Stream<Path> files = Files.list(root.resolve("src/test/java"))) {
            for (Path file : files.toList()) {
                String name = file.getFileName().toString();
                if (name.endsWith("Test.java")) Due.is(name + " in the table", readme.contains("| `src/test/java/" + name + "` |"), true);
            }
        }
        Matcher named = Pattern.compile("`((?:src|\\.ci|\\.\\./shared)/[\\w/.]+)`").matcher(readme);
        while (named.find()) Due.is(named.group(1) + " is there", Files.exists(root.resolve(named.group(1))), true);
    }

    // Each call of the face stands in the table of calls, once.
    private static void calls(String readme) {
        int from = readme.indexOf("| what for | calls |");
        String table = from < 0 ? "" : readme.substring(from, readme.indexOf("\n\n", from));
        int found = 0;
        for (Method m : LeftShoes.class.getDeclaredMethods()) {
            if (!Modifier.isPublic(m.getModifiers())) continue;
            found++;
            Due.is(m.getName() + " in the table of calls", table.split("`" + m.getName() + "`", -1).length - 1, 1);
        }
        Due.is("calls in the table", (table.length() - table.replace("`", "").length()) / 2, found);
    }

    private static void remove(Path directory) throws IOException {
        try (Stream<Path> all = Files.walk(directory)) {
            for (Path path : all.sorted(Comparator.reverseOrder()).toList()) Files.delete(path);
        }
    }
}
