import java.io.IOException;
import java.io.StringWriter;
import java.lang.reflect.Method;
import java.lang.reflect.Modifier;
import java.net.URL;
import java.net.URLClassLoader;
import java.nio.file.Files;
import java.nio.file.Path;
import java.util.ArrayList;
import java.util.Comparator;
import java.util.List;
import java.util.Set;
import java.util.TreeSet;
import java.util.regex.Matcher;
import java.util.regex.Pattern;
import java.util.stream.Stream;
import javax.tools.JavaCompiler;
import javax.tools.StandardJavaFileManager;
import javax.tools.ToolProvider;

/** What README.md says of the use of the class and of the running of its tests. */
public final class ReadmeTest {
    private static final Path README = Path.of("README.md"), TESTS = Path.of("src/test/java"), ALL = Path.of(".ci/run");
    private static final String NEW_OBJECT = "NameRows x = new NameRows();";

    /** A line of an example: a call, in a variable or not, and its answer. */
    record Example(String variable, String call, int answer) {
        private static final Pattern LINE = Pattern.compile("(?:int (\\w+) = )?x\\.(\\w+\\(.*\\)); *// (-?\\d+)(?::.*)?");

        static Example of(String line) {
            Matcher parts = LINE.matcher(line);
            return parts.matches() ? new Example(parts.group(1), parts.group(2), Integer.parseInt(parts.group(3))) : null;
        }

        String asCode(int i) {
            String toldAs = variable == null ? "" : "int " + variable + " = ";
            return toldAs + "answers[" + i + "] = x." + call + ";\n";
        }
    }

    public static void main(String[] args) throws Exception {
        List<String> lines = Files.readAllLines(README);
        checkExamples(blocks(lines, "java"));
        checkCommands(blocks(lines, "sh"));
        checkTable(lines);
        Due.end();
    }

    /** The texts between ```kind and ```. */
    private static List<String> blocks(List<String> lines, String kind) {
        List<String> blocks = new ArrayList<>();
        boolean inside = false;
        for (String line : lines) {
            if (line.startsWith("```")) {
                inside = line.equals("```" + kind);
                if (inside) {
                    blocks.add("");
                }
            } else if (inside) {
                blocks.add(blocks.remove(blocks.size() - 1) + line + "\n");
            }
        }
        return blocks;
    }

    private static void checkExamples(List<String> blocks) throws Exception {
        List<Example> examples = new ArrayList<>();
        StringBuilder code = new StringBuilder();
        for (String line : String.join("", blocks).split("\n")) {
            Example example = Example.of(line);
            if (example != null) {
                code.append(example.asCode(examples.size()));
                examples.add(example);
            } else {
                code.append(line).append('\n');
                Due.due("README.md: a call with its answer: " + line, line.equals(NEW_OBJECT) ? 1 : 0, 1);
            }
        }
        int[] answers = answersOf(code.toString(), examples.size());
        for (int i = 0; i < answers.length; i++) {
            Due.due("README.md: " + examples.get(i).call(), answers[i], examples.get(i).answer());
        }
        Due.due("README.md: an object is used for at most 512 calls", Math.max(answers.length, 512), 512);
        checkEachCallIsShown(examples);
    }

    private static void checkEachCallIsShown(List<Example> examples) {
        for (Method method : NameRows.class.getDeclaredMethods()) {
            boolean shown = examples.stream().anyMatch(example -> example.call().startsWith(method.getName() + "("));
            Due.due("README.md: shows " + method.getName(), shown || !Modifier.isPublic(method.getModifiers()) ? 1 : 0, 1);
        }
    }

    /** Compiles and runs lines that tell their answers; none if they cannot be compiled. */
    private static int[] answersOf(String code, int many) throws Exception {
        Path folder = Files.createTempDirectory("readme");
        try {
            Path source = folder.resolve("Examples.java");
            Files.writeString(source, "public final class Examples {\npublic static int[] answers() {\nint[] answers = new int["
                + many + "];\n" + code + "return answers;\n}\n}\n");
            if (!isCompiled(source, folder)) {
                return new int[0];
            }
            try (URLClassLoader loader = new URLClassLoader(new URL[] {folder.toUri().toURL()})) {
                return (int[]) loader.loadClass("Examples").getMethod("answers").invoke(null);
            }
        } finally {
            delete(folder);
        }
    }

    private static boolean isCompiled(Path source, Path folder) throws IOException {
        JavaCompiler compiler = ToolProvider.getSystemJavaCompiler();
        StringWriter told = new StringWriter();
        try (StandardJavaFileManager files = compiler.getStandardFileManager(null, null, null)) {
            List<String> options = List.of("-d", folder.toString(), "-cp", System.getProperty("java.class.path"));
            boolean compiled = compiler.getTask(told, files, null, options, null, files.getJavaFileObjects(source)).call();
            Due.due("README.md: the examples are Java: " + told, compiled ? 1 : 0, 1);
            return compiled;
        }
    }

    private static void delete(Path folder) throws IOException {
        try (Stream<Path> inside = Files.walk(folder)) {
            for (Path path : inside.sorted(Comparator.reverseOrder()).toList()) {
                Files.delete(path);
            }
        }
    }

    /** The command for all tests runs this one, too, so it is not run here. */
    private static void checkCommands(List<String> blocks) throws Exception {
        Due.due("README.md: commands for all tests and for one", blocks.size(), 2);
        Due.due("README.md: " + ALL, blocks.contains(ALL + "\n") && Files.isExecutable(ALL) ? 1 : 0, 1);
        for (String block : blocks) {
            if (!block.equals(ALL + "\n")) {
                Process process = new ProcessBuilder("sh", "-ec", block).redirectErrorStream(true).start();
                String told = new String(process.getInputStream().readAllBytes());
                Due.due("README.md: " + block + told, process.waitFor(), 0);
            }
        }
    }

    private static void checkTable(List<String> lines) throws IOException {
        Set<String> told = new TreeSet<>();
        for (String line : lines) {
            if (line.matches("\\| `\\w+` \\|.*")) {
                String name = line.split("`")[1];
                Due.due("README.md: once in the table: " + name, told.add(name) ? 1 : 0, 1);
            }
        }
        try (Stream<Path> files = Files.list(TESTS)) {
            for (Path file : files.toList()) {
                String name = file.getFileName().toString().replace(".java", "");
                Due.due("README.md: in the table: " + name, told.remove(name) || !name.endsWith("Test") ? 1 : 0, 1);
            }
        }
        Due.due("README.md: in the table, but not there: " + told, told.size(), 0);
    }
}
