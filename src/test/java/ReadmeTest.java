import java.io.ByteArrayOutputStream;
import java.io.PrintStream;
import java.lang.reflect.Method;
import java.lang.reflect.Modifier;
import java.net.URL;
import java.net.URLClassLoader;
import java.nio.file.Files;
import java.nio.file.Path;
import javax.tools.ToolProvider;

/** README.md names each call, and the program in it prints what it says. */
public final class ReadmeTest {
    private static int wrong = 0;

    public static void main(String[] args) throws Exception {
        String readme = Files.readString(Path.of("README.md"));
        for (Method method : PaperLand.class.getDeclaredMethods()) {
            if (Modifier.isPublic(method.getModifiers())) {
                expect(readme.contains("`" + method.getName() + "`"), "README.md does not name " + method.getName());
            }
        }
        String program = between(readme, "```java\n", "```");
        String output = between(readme.substring(readme.indexOf("prints\n")), "```\n", "```");
        String printed = printedBy(program);
        expect(printed.equals(output), "the program in README.md prints\n" + printed + "and not\n" + output);
        if (wrong > 0) {
            System.exit(1);
        }
        System.out.println("the program in README.md prints what it says");
    }

    private static String between(String text, String start, String end) {
        int from = text.indexOf(start) + start.length();
        return text.substring(from, text.indexOf(end, from));
    }

    private static String printedBy(String program) throws Exception {
        Path place = Files.createTempDirectory("readme");
        Path source = place.resolve("Example.java");
        Path made = place.resolve("Example.class");
        PrintStream out = System.out;
        ByteArrayOutputStream printed = new ByteArrayOutputStream();
        try (URLClassLoader loader = new URLClassLoader(new URL[] {place.toUri().toURL()})) {
            Files.writeString(source, program);
            int code = ToolProvider.getSystemJavaCompiler().run(null, null, null, "-Xlint:all", "-Werror",
                "-cp", System.getProperty("java.class.path"), "-d", place.toString(), source.toString());
            if (code != 0) {
                return "nothing, for it does not compile\n";
            }
            System.setOut(new PrintStream(printed, true));
            loader.loadClass("Example").getMethod("main", String[].class).invoke(null, (Object) new String[0]);
        } finally {
            System.setOut(out);
            Files.deleteIfExists(source);
            Files.deleteIfExists(made);
            Files.delete(place);
        }
        return printed.toString();
    }

    private static void expect(boolean holds, String what) {
        if (!holds) {
            wrong++;
            System.out.println(what);
        }
    }
}
