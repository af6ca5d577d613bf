import java.io.ByteArrayOutputStream;
import java.io.File;
import java.io.IOException;
import java.io.PrintStream;
import java.lang.reflect.Method;
import java.lang.reflect.Modifier;
import java.net.URL;
import java.net.URLClassLoader;
import java.nio.charset.StandardCharsets;
import java.nio.file.Files;
import java.nio.file.Path;
import java.util.ArrayList;
import java.util.List;
import java.util.Set;
import java.util.TreeSet;
import java.util.regex.Matcher;
import java.util.regex.Pattern;
import javax.tools.ToolProvider;

/** What README.md tells of the use of the class is so: its example, its table, and its tests' names. */
public final class ReadmeTest {
    private static final Due DUE = new Due("README.md");
    private static final Path README = Path.of("README.md");
    private static final Path TESTS = Path.of("src", "test", "java");

    public static void main(String[] args) throws Exception {
        List<String> lines = Files.readAllLines(README, StandardCharsets.UTF_8);
        example(lines);
        table(lines);
        namesOfTests(String.join("\n", lines));
        DUE.end();
    }

    private static void yes(String what, boolean holds) {
        DUE.is(what, holds ? 1 : 0, 1);
    }

    private static void example(List<String> lines) throws Exception {
        List<List<String>> programs = blocks(lines, "java");
        List<List<String>> outputs = blocks(lines, "text");
        DUE.is("programs", programs.size(), 1);
        DUE.is("outputs", outputs.size(), 1);
        if (DUE.anyWrong()) {
            return;
        }
        compare(printedBy(programs.get(0)), outputs.get(0));
    }

    private static List<List<String>> blocks(List<String> lines, String kind) {
        List<List<String>> found = new ArrayList<>();
        List<String> open = null;
        for (String line : lines) {
            if (open != null && line.equals("```")) {
                found.add(open);
                open = null;
            } else if (open != null) {
                open.add(line);
            } else if (line.equals("```" + kind)) {
                open = new ArrayList<>();
            }
        }
        return found;
    }

    private static void compare(List<String> printed, List<String> told) {
        DUE.is("lines that the example prints", printed.size(), told.size());
        for (int i = 0; i < Math.min(printed.size(), told.size()); i++) {
            yes("'" + told.get(i) + "', but the example prints '" + printed.get(i) + "': same",
                    told.get(i).equals(printed.get(i)));
        }
    }

    private static List<String> printedBy(List<String> program) throws Exception {
        Path directory = Files.createTempDirectory("readme");
        try {
            Path source = directory.resolve("Example.java");
            Files.write(source, program, StandardCharsets.UTF_8);
            int code = ToolProvider.getSystemJavaCompiler().run(null, null, null, "-Xlint:all", "-Werror",
                    "--release", "17", "-cp", System.getProperty("java.class.path"),
                    "-d", directory.toString(), source.toString());
            DUE.is("compiling the example", code, 0);
            return code == 0 ? printedByClass(directory) : List.of();
        } finally {
            delete(directory);
        }
    }

    private static List<String> printedByClass(Path directory) throws Exception {
        PrintStream before = System.out;
        ByteArrayOutputStream printed = new ByteArrayOutputStream();
        try (URLClassLoader loader = new URLClassLoader(new URL[] {directory.toUri().toURL()})) {
            System.setOut(new PrintStream(printed, true, StandardCharsets.UTF_8));
            loader.loadClass("Example").getMethod("main", String[].class).invoke(null, (Object) new String[0]);
        } finally {
            System.setOut(before);
        }
        return printed.toString(StandardCharsets.UTF_8).lines().toList();
    }

    private static void delete(Path directory) throws IOException {
        for (File file : directory.toFile().listFiles()) {
            Files.delete(file.toPath());
        }
        Files.delete(directory);
    }

    /** Each method of the face has one row, with as many parameters as it takes. */
    private static void table(List<String> lines) {
        Set<String> told = new TreeSet<>();
        Pattern row = Pattern.compile("\\| `(\\w+)\\(([^)]*)\\)` \\|.*");
        for (String line : lines) {
            Matcher matcher = row.matcher(line);
            if (matcher.matches()) {
                String call = matcher.group(1) + " with " + matcher.group(2).split(",").length;
                yes("one row for " + call, told.add(call));
            }
        }
        Set<String> face = new TreeSet<>();
        for (Method method : MovingBlock.class.getDeclaredMethods()) {
            if (Modifier.isPublic(method.getModifiers())) {
                face.add(method.getName() + " with " + method.getParameterCount());
            }
        }
        yes("the table has " + told + ", the face " + face + ": same", told.equals(face));
        yes("REFUSED is told", String.join(" ", lines).contains("`MovingBlock.REFUSED` (" + MovingBlock.REFUSED + ")"));
    }

    /** Each test of the project is told of, by its name or by the name of its family. */
    private static void namesOfTests(String readme) {
        String[] files = TESTS.toFile().list();
        yes("tests under " + TESTS, files != null && files.length > 0);
        if (files == null) {
            return;
        }
        for (String file : files) {
            String name = file.replace(".java", "");
            String told = name.replaceFirst("^Promise\\d\\d.*", "Promise01..13*Test")
                    .replaceFirst("^EdgesOf(The)?(\\w+)Test$", "$1$2");
            yes("`" + told + "` stands in README.md", readme.contains("`" + told + "`"));
        }
    }
}
