import java.io.File;
import java.io.IOException;
import java.lang.reflect.Method;
import java.lang.reflect.Modifier;
import java.nio.file.Files;
import java.nio.file.Path;
import java.util.ArrayList;
import java.util.Comparator;
import java.util.List;
import java.util.regex.Matcher;
import java.util.regex.Pattern;
import java.util.stream.Stream;

/** README.md: its examples answer what stands beside them, its commands run, and it names every call. */
public final class ReadmeTest {
    private static final Pattern BLOCK = Pattern.compile("(?ms)^```(\\w*)\n(.*?)^```$");
    // a call with the answer that the page tells; what it is kept in, if it is
    private static final Pattern ANSWERED = Pattern.compile(
            " *(?:(?:int|long) (\\w+) = )?(x\\.\\w+\\(.*\\));\\s*// (-?\\d+)\\b.*");
    private static final String PROGRAM = "src/main/java/StoneRiver.java";

    private static int wrong;
    private static int answers;

    public static void main(String[] args) throws IOException, InterruptedException {
        Path root = Path.of(System.getProperty("project", ".")).toAbsolutePath();
        String page = Files.readString(root.resolve("README.md"));
        Path room = Files.createTempDirectory("readme");
        try {
            expect("the examples answer what the page says", examplesHold(page, root, room));
            expect("the commands run", commandsRun(page, root, room));
        } finally {
            remove(room);
        }
        allNamed(page, root.resolve("src/test/java"));
        System.out.println(answers + " answers on the page, " + wrong + " things not so");
        if (wrong != 0) {
            System.exit(1);
        }
    }

    private static void expect(String what, boolean holds) {
        if (!holds) {
            wrong++;
            System.out.println("not so: " + what);
        }
    }

    private static List<String> blocks(String page, String language) {
        List<String> found = new ArrayList<>();
        Matcher block = BLOCK.matcher(page);
        while (block.find()) {
            if (block.group(1).equals(language)) {
                found.add(block.group(2));
            }
        }
        return found;
    }

    /** All examples, one behind the other, as one program that looks at the answers. */
    private static boolean examplesHold(String page, Path root, Path room) throws IOException, InterruptedException {
        StringBuilder program = new StringBuilder("public final class Page {\n    static int wrong;\n"
                + "    static void due(String call, long want, long got) {\n        if (want != got) {\n"
                + "            wrong++;\n"
                + "            System.out.println(call + \" answered \" + got + \", the page says \" + want);\n"
                + "        }\n    }\n    public static void main(String[] args) {\n");
        for (String block : blocks(page, "java")) {
            for (String line : block.split("\n")) {
                program.append(looking(line)).append('\n');
            }
        }
        program.append("        System.exit(wrong == 0 ? 0 : 1);\n    }\n}\n");
        expect("the page has examples", answers > 0);
        Path file = room.resolve("Page.java");
        Files.writeString(file, program);
        String classes = room.resolve("classes").toString();
        return run(root, "javac", "-d", classes, root.resolve(PROGRAM).toString(), file.toString())
                && run(root, "java", "-cp", classes, "Page");
    }

    private static String looking(String line) {
        Matcher answered = ANSWERED.matcher(line);
        if (!answered.matches()) {
            expect("this call has its answer beside it, or none is due: " + line, !line.matches("\\s*x\\..*//.*"));
            return line;
        }
        answers++;
        String kept = answered.group(1);
        String call = answered.group(2);
        String due = "due(\"" + call.replace("\"", "'") + "\", " + answered.group(3) + "L, ";
        return kept == null ? due + call + ");" : "int " + kept + " = " + call + "; " + due + kept + ");";
    }

    /** The page's commands, in a copy of the project; without .ci/run, which runs this test. */
    private static boolean commandsRun(String page, Path root, Path room) throws IOException, InterruptedException {
        Path copy = room.resolve("copy");
        copyTree(root.resolve("src"), copy.resolve("src"));
        List<String> commands = blocks(page, "sh");
        boolean ran = !commands.isEmpty();
        for (String command : commands) {
            ran = ran && run(copy, "sh", "-e", "-c", command);
        }
        expect("the page tells of .ci/run", blocks(page, "").contains("sh .ci/run\n"));
        return ran;
    }

    private static boolean run(Path directory, String... command) throws IOException, InterruptedException {
        File said = File.createTempFile("said", ".txt");
        try {
            int code = new ProcessBuilder(command).directory(directory.toFile()).redirectErrorStream(true)
                    .redirectOutput(said).start().waitFor();
            if (code != 0) {
                System.out.println(String.join(" ", command) + " ended with " + code + ":");
                System.out.println(Files.readString(said.toPath()));
            }
            return code == 0;
        } finally {
            Files.delete(said.toPath());
        }
    }

    private static void allNamed(String page, Path tests) throws IOException {
        for (Method method : StoneRiver.class.getDeclaredMethods()) {
            if (Modifier.isPublic(method.getModifiers())) {
                expect("the page names and calls " + method.getName(), page.contains("`" + method.getName() + "`")
                        && page.contains("x." + method.getName() + "("));
            }
        }
        try (Stream<Path> all = Files.list(tests)) {
            for (Path each : (Iterable<Path>) all::iterator) {
                String name = each.getFileName().toString().replace(".java", "");
                expect("the page names " + name, page.contains("`" + name + "`"));
            }
        }
    }

    private static void copyTree(Path from, Path to) throws IOException {
        try (Stream<Path> all = Files.walk(from)) {
            for (Path each : (Iterable<Path>) all::iterator) {
                Path target = to.resolve(from.relativize(each).toString());
                if (Files.isDirectory(each)) {
                    Files.createDirectories(target);
                } else {
                    Files.copy(each, target);
                }
            }
        }
    }

    private static void remove(Path room) throws IOException {
        try (Stream<Path> all = Files.walk(room)) {
            for (Path each : (Iterable<Path>) all.sorted(Comparator.reverseOrder())::iterator) {
                Files.delete(each);
            }
        }
    }
}
