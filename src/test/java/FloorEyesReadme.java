import java.io.ByteArrayOutputStream;
import java.io.IOException;
import java.io.PrintStream;
import java.lang.reflect.Method;
import java.lang.reflect.Modifier;
import java.net.URL;
import java.net.URLClassLoader;
import java.nio.charset.StandardCharsets;
import java.nio.file.Files;
import java.nio.file.Path;
import java.util.ArrayList;
import java.util.Comparator;
import java.util.List;
import java.util.regex.Matcher;
import java.util.regex.Pattern;
import java.util.stream.Stream;
import javax.tools.ToolProvider;

/** README.md, the third argument: it tells each call and what that throws, and its example does what it says. */
public final class FloorEyesReadme extends Checks {
    public static void main(String[] args) throws Exception {
        Path page = Path.of(args.length > 2 ? args[2] : "README.md");
        String text = Files.readString(page);
        eachCallHasARow(text);
        eachRowIsACall(text);
        theExampleDoesWhatItSays(text, page);
        theTestsAreNamed(text, page);
        end("the page says what is so");
    }

    private static List<Method> face() {
        List<Method> face = new ArrayList<>();
        for (Method method : FloorEyes.class.getDeclaredMethods()) {
            if (Modifier.isPublic(method.getModifiers())) {
                face.add(method);
            }
        }
        return face;
    }

    /** A row of the table of calls: what is called, what it is for, what it throws. */
    private static List<String[]> rows(String text) {
        List<String[]> rows = new ArrayList<>();
        for (String line : text.split("\n")) {
            String[] parts = line.split("\\|");
            if (line.startsWith("| `") && parts.length == 4) {
                rows.add(new String[] {parts[1].strip().replace("`", ""), parts[2].strip(), parts[3].strip()});
            }
        }
        return rows;
    }

    private static void eachCallHasARow(String text) {
        part("each call has a row");
        for (Method method : face()) {
            String head = head(method);
            int found = 0;
            for (String[] row : rows(text)) {
                if (row[0].replaceAll(" \\w+(?=[,)])", "").equals(head)) {
                    found++;
                    due(head + " says what it is for", row[1].length() > 20, true);
                    dueText(head + " throws", thrown(row[2]), thrown(method));
                }
            }
            due("rows of " + head, found, 1);
        }
    }

    private static void eachRowIsACall(String text) {
        part("each row is a call");
        due("rows, with that of the constructor", rows(text).size(), face().size() + 1);
        dueText("the first row", rows(text).isEmpty() ? "" : rows(text).get(0)[0], "FloorEyes()");
    }

    private static String head(Method method) {
        List<String> types = new ArrayList<>();
        for (Class<?> type : method.getParameterTypes()) {
            types.add(type.getSimpleName());
        }
        return method.getReturnType().getSimpleName() + " " + method.getName() + "(" + String.join(", ", types) + ")";
    }

    private static String thrown(Method method) {
        StringBuilder names = new StringBuilder();
        for (Class<?> type : method.getExceptionTypes()) {
            names.append(type.getSimpleName()).append(' ');
        }
        return names.toString();
    }

    private static String thrown(String told) {
        StringBuilder names = new StringBuilder();
        Matcher matcher = Pattern.compile("`(\\w+Exception)`").matcher(told);
        while (matcher.find()) {
            names.append(matcher.group(1)).append(' ');
        }
        due("\"" + told + "\" says nothing or names one", told.equals("nothing"), names.length() == 0);
        return names.toString();
    }

    private static String block(String text, String kind) {
        Matcher matcher = Pattern.compile("(?s)```" + kind + "\n(.*?)```").matcher(text);
        return matcher.find() ? matcher.group(1) : "";
    }

    private static void theExampleDoesWhatItSays(String text, Path page) throws Exception {
        part("the example");
        Path out = Files.createTempDirectory("example");
        try {
            Path source = Files.writeString(out.resolve("Example.java"), block(text, "java"));
            Path main = page.toAbsolutePath().resolveSibling("src/main/java/FloorEyes.java");
            int failed = ToolProvider.getSystemJavaCompiler().run(null, null, null,
                    "-d", out.toString(), main.toString(), source.toString());
            due("it compiles", failed, 0);
            if (failed == 0) {
                dueText("it", printed(out), block(text, "text"));
            }
        } finally {
            remove(out);
        }
    }

    private static String printed(Path classes) throws Exception {
        ByteArrayOutputStream bytes = new ByteArrayOutputStream();
        PrintStream before = System.out;
        try (URLClassLoader loader = new URLClassLoader(new URL[] {classes.toUri().toURL()}, null);
                PrintStream caught = new PrintStream(bytes, true, StandardCharsets.UTF_8)) {
            System.setOut(caught);
            Method start = loader.loadClass("Example").getMethod("main", String[].class);
            start.invoke(null, (Object) new String[0]);
        } finally {
            System.setOut(before);
        }
        return bytes.toString(StandardCharsets.UTF_8).replace("\r\n", "\n");
    }

    private static void remove(Path root) throws IOException {
        try (Stream<Path> all = Files.walk(root)) {
            for (Path path : all.sorted(Comparator.reverseOrder()).toList()) {
                Files.delete(path);
            }
        }
    }

    private static void theTestsAreNamed(String text, Path page) throws IOException {
        part("each test is named");
        due(".ci/run", text.contains(".ci/run"), true);
        try (Stream<Path> tests = Files.list(page.toAbsolutePath().resolveSibling("src/test/java"))) {
            for (Path test : tests.toList()) {
                String name = test.getFileName().toString().replace(".java", "");
                due(name, text.contains("`" + name + "`"), true);
            }
        }
    }
}
