import java.io.ByteArrayOutputStream;
import java.io.IOException;
import java.io.PrintStream;
import java.lang.reflect.Method;
import java.lang.reflect.Modifier;
import java.net.URL;
import java.net.URLClassLoader;
import java.nio.file.Files;
import java.nio.file.Path;
import java.util.BitSet;
import java.util.TreeSet;
import java.util.regex.Matcher;
import java.util.regex.Pattern;
import javax.tools.JavaCompiler;
import javax.tools.ToolProvider;

/** What README.md says is so: its example is compiled and run as it stands there, its tables are held against the project. */
public final class ReadmeTest {
    public static void main(String[] args) throws IOException, ReflectiveOperationException {
        String readme = Files.readString(Path.of("README.md"));
        Check.due("what README.md's example tells", toldBy(block("java", readme)), block("text", readme));
        Check.due("README.md's calls", cells("`([a-z]+)`", readme).toString(), face().toString());
        Check.due("README.md's tests", cells("([A-Za-z]+Test)", readme).toString(), tests().toString());
        Check.due("promises in README.md's table of tests", promises(readme).toString(), "{1, 2, 3, 4, 5, 6, 7, 8, 9, 10, "
            + "11, 12, 13, 14, 15, 16, 17}");
        Check.close();
    }

    /** The first one of its kind. */
    private static String block(String kind, String readme) {
        Matcher block = Pattern.compile("```" + kind + "\n(.*?)```\n", Pattern.DOTALL).matcher(readme);
        return block.find() ? block.group(1) : "no " + kind + " in README.md";
    }

    private static String toldBy(String example) throws IOException, ReflectiveOperationException {
        Path room = Files.createTempDirectory("readme");
        Path source = room.resolve("Example.java");
        try {
            Files.writeString(source, example);
            JavaCompiler javac = ToolProvider.getSystemJavaCompiler();
            String known = System.getProperty("java.class.path");
            int failed = javac.run(null, null, null, "-Xlint:all", "-Werror", "-d", room.toString(), "-cp", known,
                source.toString());
            return failed != 0 ? "it does not compile" : run(room);
        } finally {
            Files.deleteIfExists(source);
            Files.deleteIfExists(room.resolve("Example.class"));
            Files.deleteIfExists(room);
        }
    }

    private static String run(Path room) throws IOException, ReflectiveOperationException {
        ByteArrayOutputStream told = new ByteArrayOutputStream();
        PrintStream before = System.out;
        try (URLClassLoader loader = new URLClassLoader(new URL[] {room.toUri().toURL()})) {
            Method main = loader.loadClass("Example").getMethod("main", String[].class);
            System.setOut(new PrintStream(told, true));
            main.invoke(null, (Object) new String[0]);
        } finally {
            System.setOut(before);
        }
        return told.toString().replace("\r\n", "\n");
    }

    /** What stands first in the rows of the tables, if it is of that form. */
    private static TreeSet<String> cells(String form, String readme) {
        TreeSet<String> found = new TreeSet<>();
        Matcher cell = Pattern.compile("(?m)^\\| " + form + " \\|").matcher(readme);
        while (cell.find()) {
            found.add(cell.group(1));
        }
        return found;
    }

    private static TreeSet<String> face() {
        TreeSet<String> found = new TreeSet<>();
        for (Method method : SoupReader.class.getDeclaredMethods()) {
            if (Modifier.isPublic(method.getModifiers())) {
                found.add(method.getName());
            }
        }
        return found;
    }

    private static TreeSet<String> tests() {
        TreeSet<String> found = new TreeSet<>();
        for (String file : Path.of("src/test/java").toFile().list()) {
            if (file.endsWith("Test.java")) {
                found.add(file.replace(".java", ""));
            }
        }
        return found;
    }

    /** Those that the rows of tests name, one by one or as 6 to 10. */
    private static BitSet promises(String readme) {
        BitSet found = new BitSet();
        Matcher row = Pattern.compile("(?m)^\\| [A-Za-z]+Test \\| ((?!all).*) \\|$").matcher(readme);
        while (row.find()) {
            Matcher number = Pattern.compile("(\\d+)(?: to (\\d+))?").matcher(row.group(1));
            while (number.find()) {
                int from = Integer.parseInt(number.group(1));
                found.set(from, 1 + (number.group(2) == null ? from : Integer.parseInt(number.group(2))));
            }
        }
        return found;
    }
}
