import java.io.IOException;
import java.lang.reflect.Method;
import java.lang.reflect.Modifier;
import java.net.URL;
import java.net.URLClassLoader;
import java.nio.file.Files;
import java.nio.file.Path;
import java.util.List;
import java.util.Map;
import java.util.TreeMap;
import java.util.regex.Matcher;
import java.util.regex.Pattern;
import java.util.stream.Stream;
import javax.tools.JavaCompiler;
import javax.tools.ToolProvider;

/** What README.md says is so: its example, its tables of items and calls, its list of tests. */
public final class ReadmeTest {
    private static final List<String> SETTINGS = List.of("edge", "stiff", "loss", "force", "period", "limit");
    private static int wrong = 0;

    public static void due(String what, Object got, Object want) {
        if (!got.equals(want)) {
            wrong++;
            System.out.println(what + ": " + got + ", due is " + want);
        }
    }

    public static void main(String[] args) throws Exception {
        String readme = Files.readString(Path.of("README.md"));
        runExample(readme);
        items(readme);
        calls(readme);
        testsAreNamed(readme);
        System.out.println(wrong == 0 ? "README.md is as due" : wrong + " things are not as due");
        if (wrong != 0) {
            System.exit(1);
        }
    }

    // ---- the example

    /** Each call that has a number behind it must answer that number. */
    private static void runExample(String readme) throws Exception {
        Matcher block = Pattern.compile("(?s)```java\n(.*?)```").matcher(readme);
        due("there is an example", block.find(), true);
        Matcher answers = Pattern.compile("(?m)^(plate\\.\\w+\\([^)]*\\)); +// (-?\\d+)").matcher(block.group(1));
        due("calls of the example with an answer", answers.results().count() > 10, true);
        String code = answers.reset().replaceAll("ReadmeTest.due(\"the example, $1\", $1, $2); // $2");
        Path room = Files.createTempDirectory("readme");
        try {
            compile(code, room);
            try (URLClassLoader loader = new URLClassLoader(new URL[] {room.toUri().toURL()})) {
                loader.loadClass("Example").getMethod("run").invoke(null);
            }
        } finally {
            remove(room);
        }
    }

    private static void compile(String code, Path room) throws IOException {
        Path source = room.resolve("Example.java");
        Files.writeString(source, "public final class Example {\n    public static void run() {\n" + code + "    }\n}\n");
        JavaCompiler compiler = ToolProvider.getSystemJavaCompiler();
        int exit = compiler.run(null, null, null, "-proc:none", "-cp", System.getProperty("java.class.path"),
            "-d", room.toString(), source.toString());
        due("the example compiles", exit, 0);
    }

    private static void remove(Path room) throws IOException {
        try (Stream<Path> files = Files.list(room)) {
            for (Path file : files.toList()) {
                Files.delete(file);
            }
        }
        Files.delete(room);
    }

    // ---- the tables

    /** A row of a setting: | `word N;` | LEAST to MOST.. | AT FIRST | */
    private static void items(String readme) {
        Matcher rows = Pattern.compile("(?m)^\\| `(\\w+) \\w;` \\| (\\d+) to (\\d+)[^|]*\\| (\\d+) \\|$").matcher(readme);
        int many = 0;
        while (rows.find()) {
            String word = rows.group(1);
            int what = SETTINGS.indexOf(word);
            int least = Integer.parseInt(rows.group(2));
            int most = Integer.parseInt(rows.group(3));
            due(word + " at first", new Counted().setting(what), Integer.parseInt(rows.group(4)));
            due(word + ", the least", told(word, least), true);
            due(word + ", less than the least", told(word, least - 1), false);
            due(word + ", the most", told(word, most), true);
            due(word + ", more than the most", told(word, most + 1), false);
            many++;
        }
        due("settings in the table of items", many, SETTINGS.size());
        for (String word : List.of("plate W H", "drive X Y", "row F")) {
            due("the table of items has " + word, readme.contains("| `" + word + ";` |"), true);
        }
    }

    private static boolean told(String word, int n) {
        Counted x = new Counted();
        for (char letter : (word + " " + n + ";").toCharArray()) {
            x.type(letter);
        }
        return x.tells() == 1;
    }

    private static void calls(String readme) {
        Map<String, Integer> named = new TreeMap<>();
        Matcher rows = Pattern.compile("(?m)^\\| `(\\w+)\\(([^)]*)\\)` \\|").matcher(readme);
        while (rows.find()) {
            named.put(rows.group(1), rows.group(2).isEmpty() ? 0 : rows.group(2).split(",").length);
        }
        Map<String, Integer> face = new TreeMap<>();
        for (Method method : SandPlates.class.getDeclaredMethods()) {
            if (Modifier.isPublic(method.getModifiers())) {
                face.put(method.getName(), method.getParameterCount());
            }
        }
        due("calls in the table, and how many numbers they take", named, face);
    }

    private static void testsAreNamed(String readme) throws IOException {
        try (Stream<Path> files = Files.list(Path.of("src/test/java"))) {
            for (Path file : files.toList()) {
                String name = file.getFileName().toString().replace(".java", "");
                due("the list of tests has " + name, readme.contains("`" + name + "`"), true);
            }
        }
    }
}
