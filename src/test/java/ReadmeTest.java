import java.io.ByteArrayOutputStream;
import java.io.File;
import java.io.IOException;
import java.io.PrintStream;
import java.net.URL;
import java.net.URLClassLoader;
import java.nio.charset.StandardCharsets;
import java.nio.file.Files;
import java.nio.file.Path;
import java.nio.file.Paths;
import java.util.ArrayList;
import java.util.Arrays;
import java.util.List;
import java.util.regex.Matcher;
import java.util.regex.Pattern;
import java.util.stream.Stream;
import javax.tools.ToolProvider;

/** What README.md tells: its example answers as it says there, and each test of the project is named. */
public final class ReadmeTest {
    private static final Path TESTS = Paths.get("src/test/java");
    private static int checks;
    private static int wrong;

    private static void due(String what, String got, String want) {
        checks++;
        if (!got.equals(want)) {
            wrong++;
            System.out.println(what + " answered\n" + got + "due is\n" + want);
        }
    }

    private static void need(boolean ok, String what) {
        checks++;
        if (!ok) {
            wrong++;
            System.out.println(what);
        }
    }

    /** What stands in the first block of a kind. */
    private static String block(String readme, String kind) {
        Matcher m = Pattern.compile("(?s)\n```" + kind + "\n(.*?)```").matcher(readme);
        return m.find() ? m.group(1) : "";
    }

    /** Compiles the example with the class, as README.md says, and runs it: what it prints. */
    private static String printed(String example) throws Exception {
        Path dir = Files.createTempDirectory("readme");
        Path file = dir.resolve("Example.java");
        Files.writeString(file, example);
        int failed = ToolProvider.getSystemJavaCompiler().run(null, null, null, "-d", dir.toString(),
            "src/main/java/Treeletter.java", file.toString());
        if (failed != 0) {
            return "does not compile\n";
        }
        ByteArrayOutputStream bytes = new ByteArrayOutputStream();
        PrintStream out = System.out;
        try (URLClassLoader loader = new URLClassLoader(new URL[] {dir.toUri().toURL()}, null)) {
            System.setOut(new PrintStream(bytes, true, StandardCharsets.UTF_8));
            loader.loadClass("Example").getMethod("main", String[].class).invoke(null, (Object) new String[0]);
        } finally {
            System.setOut(out);
            delete(dir.toFile());
        }
        return bytes.toString(StandardCharsets.UTF_8).replace("\r\n", "\n");
    }

    private static void delete(File file) {
        File[] in = file.listFiles();
        for (File f : in == null ? new File[0] : in) {
            delete(f);
        }
        file.delete();
    }

    /** Test classes that can be run by themselves. */
    private static List<String> runnable() throws IOException {
        List<String> names = new ArrayList<>();
        try (Stream<Path> files = Files.list(TESTS)) {
            for (Path file : files.sorted().toArray(Path[]::new)) {
                if (Files.readString(file).contains("public static void main(")) {
                    names.add(file.getFileName().toString().replace(".java", ""));
                }
            }
        }
        return names;
    }

    public static void main(String[] args) throws Exception {
        String readme = Files.readString(Paths.get("README.md"));
        String run = Files.readString(Paths.get(".ci/run"));
        due("the example", printed(block(readme, "java")), block(readme, "text"));
        List<String> inRun = List.of();
        Matcher list = Pattern.compile("for name in ([\\w ]+); do").matcher(run);
        if (list.find()) {
            inRun = Arrays.asList(list.group(1).split(" "));
        }
        List<String> names = runnable();
        need(names.size() >= 5, "too few tests: " + names);
        for (String name : names) {
            need(readme.contains("`" + name + "`"), "README.md does not name " + name);
            need(inRun.contains(name), ".ci/run does not run " + name);
        }
        for (String told : new String[] {"src/main/java/Treeletter.java", "bash .ci/run", "../shared/tests", "512 calls",
            "IndexOutOfBoundsException", "IllegalArgumentException", "IllegalStateException"}) {
            need(readme.contains(told), "README.md does not tell of " + told);
        }
        System.out.println(checks + " checks of README.md, " + wrong + " wrong");
        if (wrong > 0) {
            System.exit(1);
        }
    }
}
