import java.io.IOException;
import java.lang.reflect.InvocationTargetException;
import java.lang.reflect.Method;
import java.lang.reflect.Modifier;
import java.nio.file.DirectoryStream;
import java.nio.file.Files;
import java.nio.file.Path;
import java.util.regex.Matcher;
import java.util.regex.Pattern;

/** README.md tells no wrong answer, leaves out no call, and names the programs that go through the sentences. */
final class ReadmeTest {
    private static final Pattern CALL = Pattern.compile("yard\\.(\\w+)\\(([0-9, ]*)\\); +// (-?[0-9]+):.*");
    private static final Pattern PROGRAM = Pattern.compile("`(\\w+Test)`");

    public static void main(String[] args) throws IOException, ReflectiveOperationException {
        Checks c = new Checks();
        String page = Files.readString(Path.of("README.md"));
        example(c, page);
        for (Method m : WoodPiles.class.getDeclaredMethods()) {
            if (Modifier.isPublic(m.getModifiers())) {
                c.due("README.md names " + m.getName(), page.contains("`" + m.getName() + "`"), true);
            }
        }
        programs(c, page);
        c.end("ReadmeTest");
    }

    private static void example(Checks c, String page) throws ReflectiveOperationException {
        String[] lines = page.substring(page.indexOf("```java\n") + 8, page.indexOf("\n```\n")).split("\n");
        c.due("the example's first line", lines[0], "WoodPiles yard = new WoodPiles();");
        WoodPiles yard = new WoodPiles();
        for (int i = 1; i < lines.length; i++) {
            Matcher call = CALL.matcher(lines[i]);
            boolean read = call.matches();
            c.due("a call with its answer: " + lines[i], read, true);
            if (read) {
                c.due(lines[i], answer(yard, call.group(1), call.group(2)), Integer.valueOf(call.group(3)));
            }
        }
    }

    private static Object answer(WoodPiles yard, String name, String numbers) throws ReflectiveOperationException {
        String[] parts = numbers.isEmpty() ? new String[0] : numbers.split(", ");
        Class<?>[] types = new Class<?>[parts.length];
        Object[] values = new Object[parts.length];
        for (int i = 0; i < parts.length; i++) {
            types[i] = int.class;
            values[i] = Integer.valueOf(parts[i]);
        }
        try {
            return WoodPiles.class.getMethod(name, types).invoke(yard, values);
        } catch (InvocationTargetException e) {
            return e.getCause().toString();
        }
    }

    private static void programs(Checks c, String page) throws IOException {
        Path folder = Path.of("src/test/java");
        Matcher named = PROGRAM.matcher(page);
        while (named.find()) {
            String name = named.group(1);
            boolean kind = name.equals("EdgesTest");
            c.due("there is " + name, kind || Files.exists(folder.resolve(name + ".java")), true);
        }
        try (DirectoryStream<Path> files = Files.newDirectoryStream(folder, "*EdgesTest.java")) {
            for (Path file : files) {
                String name = file.getFileName().toString().replace(".java", "");
                c.due("README.md names " + name, page.contains("`" + name + "`"), true);
            }
        }
    }
}
