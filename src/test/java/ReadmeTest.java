import java.io.ByteArrayOutputStream;
import java.io.IOException;
import java.io.PrintStream;
import java.lang.reflect.Method;
import java.net.URL;
import java.net.URLClassLoader;
import java.nio.charset.StandardCharsets;
import java.nio.file.Files;
import java.nio.file.Path;
import java.util.ArrayList;
import java.util.List;
import java.util.TreeSet;
import java.util.regex.Matcher;
import java.util.regex.Pattern;
import javax.tools.ToolProvider;

/** What README.md shows of the class's use holds as it stands there. It is looked for where .ci/run starts the tests. */
public final class ReadmeTest {
    private static final Pattern PROGRAM = Pattern.compile("```java\n(.*?)```\n(.*?)```text\n(.*?)```", Pattern.DOTALL);
    private static final Pattern CLASS = Pattern.compile("public final class (\\w+)");

    private final Checks c = new Checks();
    private final String readme;

    private ReadmeTest(String readme) {
        this.readme = readme;
    }

    public static void main(String[] args) throws IOException, ReflectiveOperationException {
        ReadmeTest test = new ReadmeTest(Files.readString(Path.of("README.md"), StandardCharsets.UTF_8));
        test.programs();
        test.calls();
        test.kinds();
        test.faults();
        test.noted();
        test.tests();
        test.c.end();
    }

    /** Each program is compiled as it stands and prints the text that stands behind it. */
    private void programs() throws IOException, ReflectiveOperationException {
        int count = 0;
        Matcher shown = PROGRAM.matcher(readme);
        while (shown.find()) {
            count++;
            Matcher named = CLASS.matcher(shown.group(1));
            c.due("program " + count + " has a class", named.find() ? 1 : 0, 1);
            c.dueText(named.group(1), printed(named.group(1), shown.group(1)), shown.group(3));
        }
        c.due("programs", count, 2);
        c.due("blocks of Java", readme.split("```java", -1).length - 1, count);
    }

    private static String printed(String name, String program) throws IOException, ReflectiveOperationException {
        Path folder = Files.createTempDirectory("readme");
        Path file = folder.resolve(name + ".java");
        Path made = folder.resolve(name + ".class");
        PrintStream before = System.out;
        ByteArrayOutputStream bytes = new ByteArrayOutputStream();
        try {
            Files.writeString(file, program);
            int code = ToolProvider.getSystemJavaCompiler().run(null, null, null, "-Xlint:all", "-Werror", "-cp",
                System.getProperty("java.class.path"), "-d", folder.toString(), file.toString());
            if (code != 0) {
                return "nothing, as it does not compile";
            }
            System.setOut(new PrintStream(bytes, true, StandardCharsets.UTF_8));
            try (URLClassLoader loader = new URLClassLoader(new URL[] {folder.toUri().toURL()})) {
                loader.loadClass(name).getMethod("main", String[].class).invoke(null, (Object) new String[0]);
            }
        } finally {
            System.setOut(before);
            Files.deleteIfExists(file);
            Files.deleteIfExists(made);
            Files.deleteIfExists(folder);
        }
        return bytes.toString(StandardCharsets.UTF_8).replace(System.lineSeparator(), "\n");
    }

    /** Every method of the face has a row, with as many arguments as it takes and the exception that it names. */
    private void calls() {
        TreeSet<String> shown = new TreeSet<>();
        for (String[] row : rows("The calls")) {
            String call = code(row[0]);
            String inside = call.substring(call.indexOf('(') + 1, call.length() - 1);
            int arguments = inside.isEmpty() ? 0 : inside.split(", ").length;
            String thrown = row[3].contains(":") ? row[3].substring(0, row[3].indexOf(':')) : "";
            shown.add(call.substring(0, call.indexOf('(')) + " " + arguments + " " + thrown);
        }
        TreeSet<String> face = new TreeSet<>();
        for (Method m : SyntaxRows.class.getMethods()) {
            if (m.getDeclaringClass() == SyntaxRows.class) {
                Class<?>[] thrown = m.getExceptionTypes();
                face.add(m.getName() + " " + m.getParameterCount() + " " + (thrown.length == 0 ? "" : thrown[0].getSimpleName()));
            }
        }
        c.dueText("calls", shown.toString(), face.toString());
    }

    private void kinds() throws ReflectiveOperationException {
        List<String[]> rows = rows("Kinds of values");
        c.due("kinds", rows.size(), 10);
        for (int i = 0; i < rows.size(); i++) {
            String[] row = rows.get(i);
            c.due(row[0], SyntaxRows.class.getField(code(row[0])).getInt(null), Integer.parseInt(row[1]));
            c.read("1 0 obj " + code(row[2]) + " endobj");
            int v = c.x.object(0, 2);
            c.due("kind of " + row[2], c.x.value(v, 0), i);
            c.x.write(v, false, false);
            c.dueText(row[2] + " written", c.out(), code(row[3]));
        }
    }

    private void faults() {
        List<String[]> rows = rows("Faults");
        c.due("faults", rows.size(), 8);
        for (int i = 0; i < rows.size(); i++) {
            String[] row = rows.get(i);
            c.due("row of fault " + row[0], Integer.parseInt(row[0]), i + 1);
            if (!row[2].isEmpty()) {
                c.read(code(row[2]));
                c.due("fault of " + row[2], c.x.object(0, 3), i + 1);
                c.due("place in " + row[2], c.x.object(0, 4), Integer.parseInt(row[3]));
            }
        }
    }

    private void noted() throws ReflectiveOperationException {
        List<String[]> rows = rows("What is noted");
        c.due("bits", rows.size(), 3);
        for (String[] row : rows) {
            int bit = Integer.parseInt(row[1]);
            c.due(row[0], SyntaxRows.class.getField(code(row[0])).getInt(null), bit);
            c.read(code(row[3]));
            c.due("fault of " + row[3], c.x.object(0, 3), 0);
            c.due("noted of " + row[3], c.x.object(0, 5), bit);
        }
    }

    /** Every test of the project has a row, and no other. */
    private void tests() throws IOException {
        TreeSet<String> shown = new TreeSet<>();
        for (String[] row : rows("How to run the tests")) {
            shown.add(code(row[0]));
        }
        TreeSet<String> there = new TreeSet<>();
        try (var files = Files.list(Path.of("src/test/java"))) {
            files.map(file -> file.getFileName().toString()).filter(name -> name.endsWith("Test.java"))
                .forEach(name -> there.add(name.replace(".java", "")));
        }
        c.dueText("tests", shown.toString(), there.toString());
    }

    /** The rows of all tables below a heading, without their heads. */
    private List<String[]> rows(String heading) {
        List<String[]> rows = new ArrayList<>();
        boolean inside = false;
        boolean behindHead = false;
        for (String line : readme.split("\n")) {
            if (line.startsWith("#")) {
                inside = line.replaceFirst("^#+ ", "").equals(heading);
            } else if (!line.startsWith("|")) {
                behindHead = false;
            } else if (line.startsWith("| --- ")) {
                behindHead = true;
            } else if (inside && behindHead) {
                rows.add(cells(line));
            }
        }
        c.due("there are rows below " + heading, rows.isEmpty() ? 0 : 1, 1);
        return rows;
    }

    private static String[] cells(String line) {
        String[] cells = line.substring(1, line.lastIndexOf('|')).split("\\|", -1);
        for (int i = 0; i < cells.length; i++) {
            cells[i] = cells[i].trim();
        }
        return cells;
    }

    private static String code(String cell) {
        return cell.replace("`", "").replace("\\n", "\n");
    }
}
