import java.net.URL;
import java.net.URLClassLoader;
import java.nio.file.Files;
import java.nio.file.Path;
import java.util.ArrayList;
import java.util.List;
import java.util.regex.Matcher;
import java.util.regex.Pattern;
import javax.tools.ToolProvider;

/** The Java that stands in README.md is compiled and run, and each call there answers what the README says of it. */
public final class ReadmeTest {
    private static final Pattern BLOCK = Pattern.compile("(?s)```java\n(.*?)```");
    private static final Pattern CALL = Pattern.compile("(?m)^((?:c\\.|tell\\().*\\)); *// (-?\\d+|true|false)\\b.*$");
    private static int calls = 0;
    private static int wrong = 0;

    public static void main(String[] args) throws Exception {
        List<String> blocks = new ArrayList<>();
        Matcher found = BLOCK.matcher(Files.readString(Path.of("README.md")));
        while (found.find()) {
            blocks.add(found.group(1));
        }
        if (blocks.size() != 2) {
            System.out.println("README.md has " + blocks.size() + " blocks of Java, not an example and what it uses");
            System.exit(1);
        }
        run(example(blocks.get(0), blocks.get(1)));
        everyCallStands(blocks.get(0) + blocks.get(1));
        System.out.println(wrong == 0 ? "readme: all " + calls + " answers are as it says" : "readme: " + wrong + " answers are not as it says");
        if (wrong != 0 || calls == 0) {
            System.exit(1);
        }
    }

    /** Called by the example. */
    public static void due(String call, Object got, String want) {
        calls++;
        if (!want.equals(String.valueOf(got))) {
            wrong++;
            System.out.println("README.md: " + call + " answered " + got + ", not " + want);
        }
    }

    private static String example(String calls, String uses) {
        StringBuilder code = new StringBuilder("public class ReadmeExample {\n").append(uses).append("public static void main(String[] args) {\n");
        Matcher m = CALL.matcher(calls);
        while (m.find()) {
            String name = m.group(1).replace("\"", "\\\"");
            m.appendReplacement(code, Matcher.quoteReplacement("ReadmeTest.due(\"" + name + "\", " + m.group(1) + ", \"" + m.group(2) + "\");"));
        }
        m.appendTail(code);
        return code.append("}\n}\n").toString();
    }

    private static void run(String code) throws Exception {
        Path room = Files.createTempDirectory("readme");
        Path source = Files.writeString(room.resolve("ReadmeExample.java"), code);
        String path = System.getProperty("java.class.path");
        int exit = ToolProvider.getSystemJavaCompiler().run(null, null, null, "-cp", path, "-d", room.toString(), source.toString());
        if (exit != 0) {
            wrong++;
            System.out.println("README.md: its Java does not compile");
        } else {
            try (URLClassLoader loader = new URLClassLoader(new URL[] {room.toUri().toURL()}, ReadmeTest.class.getClassLoader())) {
                loader.loadClass("ReadmeExample").getMethod("main", String[].class).invoke(null, (Object) new String[0]);
            }
        }
        for (String name : List.of("ReadmeExample.class", "ReadmeExample.java", "")) {
            Files.deleteIfExists(room.resolve(name));
        }
    }

    /** A call that is left out would be found by nobody who reads the README alone. */
    private static void everyCallStands(String java) {
        for (java.lang.reflect.Method m : CakeCalendar.class.getMethods()) {
            if (m.getDeclaringClass() == CakeCalendar.class && !java.contains("c." + m.getName() + "(")) {
                wrong++;
                System.out.println("README.md does not show " + m.getName());
            }
        }
    }
}
