import java.io.ByteArrayOutputStream;
import java.io.PrintStream;
import java.lang.reflect.Field;
import java.lang.reflect.Method;
import java.lang.reflect.Modifier;
import java.net.URL;
import java.net.URLClassLoader;
import java.nio.file.DirectoryStream;
import java.nio.file.Files;
import java.nio.file.Path;
import java.util.ArrayList;
import java.util.List;
import java.util.regex.Matcher;
import java.util.regex.Pattern;
import javax.tools.ToolProvider;

/** README.md tells what there is, and its program runs and prints what it says. */
public final class ReadmeTest {
    private static final Due due = new Due();
    private static final String PROGRAM = "TownExample";

    public static void main(String[] args) throws Exception {
        String page = Files.readString(Path.of("README.md"));
        calls(page);
        refusals(page);
        tests(page);
        program(page);
        due.end();
    }

    private static void has(String what, boolean found) {
        due.is("README.md tells " + what, found ? 1 : 0, 1);
    }

    /** Each call has a row of its own in a table, with as many parameters as it takes, and no row tells of another. */
    private static void calls(String page) {
        List<String> told = new ArrayList<>();
        Matcher rows = Pattern.compile("(?m)^\\| `(\\w+)\\(([\\w, ]*)\\)` \\| .+ \\| .* ?\\|$").matcher(page);
        while (rows.find()) {
            int parameters = rows.group(2).isEmpty() ? 0 : rows.group(2).split(",").length;
            told.add(rows.group(1) + " " + parameters);
        }
        int calls = 0;
        for (Method m : OvenPairs.class.getDeclaredMethods()) {
            if (!Modifier.isPublic(m.getModifiers())) continue;
            calls++;
            has(m.getName(), told.contains(m.getName() + " " + m.getParameterCount()));
        }
        due.is("rows of calls in README.md", told.size(), calls);
        has("the constructor", page.contains("`new OvenPairs()`"));
    }

    private static void refusals(String page) throws Exception {
        for (Field f : OvenPairs.class.getDeclaredFields()) {
            if (!Modifier.isPublic(f.getModifiers())) continue;
            has(f.getName(), page.contains("| " + f.getInt(null) + " | `OvenPairs." + f.getName() + "` |"));
        }
        for (int refusal : new int[] {-9, -11, -12, -13, -14, -15}) {
            has("" + refusal, page.contains("| " + refusal + " | |"));
        }
        has("a FAULT", page.contains("| -100 - p | |"));
    }

    private static void tests(String page) throws Exception {
        has("how tests are run", page.contains("```sh\n.ci/run\n```"));
        try (DirectoryStream<Path> all = Files.newDirectoryStream(Path.of("src/test/java"), "*Test.java")) {
            for (Path test : all) {
                String name = test.getFileName().toString().replace(".java", "");
                has(name, Pattern.compile("\\b" + name + "\\b").matcher(page).find());
            }
        }
    }

    private static String block(String page, String opening) {
        int from = page.indexOf(opening);
        int behind = from < 0 ? -1 : page.indexOf("```\n", from + opening.length());
        return behind < 0 ? "" : page.substring(from + opening.length(), behind);
    }

    private static void program(String page) throws Exception {
        Path dir = Files.createTempDirectory("readme");
        Path source = dir.resolve(PROGRAM + ".java");
        Files.writeString(source, block(page, "```java\n"));
        int rc = ToolProvider.getSystemJavaCompiler().run(null, null, null, "-d", dir.toString(), "-cp",
            System.getProperty("java.class.path"), "-Xlint:all", "-Werror", source.toString());
        due.is("README.md's program compiled", rc, 0);
        String printed = rc == 0 ? run(dir) : "";
        due.same("README.md's program", printed, block(page, "It prints:\n\n```text\n"));
        try (DirectoryStream<Path> made = Files.newDirectoryStream(dir)) {
            for (Path file : made) Files.delete(file);
        }
        Files.delete(dir);
    }

    private static String run(Path dir) throws Exception {
        PrintStream was = System.out;
        ByteArrayOutputStream printed = new ByteArrayOutputStream();
        try (URLClassLoader loader = new URLClassLoader(new URL[] {dir.toUri().toURL()})) {
            System.setOut(new PrintStream(printed, true));
            loader.loadClass(PROGRAM).getMethod("main", String[].class).invoke(null, (Object) new String[0]);
        } finally {
            System.setOut(was);
        }
        return printed.toString().replace("\r\n", "\n");
    }
}
