import java.io.IOException;
import java.lang.reflect.Method;
import java.net.URL;
import java.net.URLClassLoader;
import java.nio.file.Files;
import java.nio.file.Path;
import java.util.Comparator;
import java.util.List;
import java.util.regex.Matcher;
import java.util.regex.Pattern;
import java.util.stream.Stream;
import javax.tools.ToolProvider;

/** README.md's own code is compiled and run: each answer that it tells must be the one that comes. */
public final class ReadmeTest {
    private static final Pattern BLOCK = Pattern.compile("(?s)```java\n(.*?)```");
    private static final Pattern TOLD = Pattern.compile("(?m)^(x\\.(\\w+)\\(.*\\)); +// (-?\\d+|true|false)$");
    private static final Pattern UNTOLD = Pattern.compile("(?m)^x\\.\\w+\\((?!.*// ).*$");
    private static final Kit KIT = new Kit();

    /** Called by what is made of README.md. */
    public static void due(String call, Object got, String told) {
        KIT.due(call + " is " + got + ", README.md tells " + told, String.valueOf(got).equals(told), true);
    }

    private static String program(String readme) {
        Matcher block = BLOCK.matcher(readme);
        StringBuilder methods = new StringBuilder();
        StringBuilder lines = new StringBuilder();
        while (block.find()) {
            (block.group(1).startsWith("static ") ? methods : lines).append(block.group(1));
        }
        KIT.due("each call of README.md has its answer", UNTOLD.matcher(lines).find(), false);
        String asked = TOLD.matcher(lines).replaceAll("ReadmeTest.due(\"$1\", $1, \"$3\");");
        return "public final class ReadmeRun {\n" + methods + "public static void run() {\n" + asked + "}\n}\n";
    }

    private static void run(Path room, String program) throws IOException, ReflectiveOperationException {
        Path file = Files.writeString(room.resolve("ReadmeRun.java"), program);
        int made = ToolProvider.getSystemJavaCompiler().run(null, null, null,
            "-cp", System.getProperty("java.class.path"), "-d", room.toString(), file.toString());
        KIT.due("README.md's code is compiled", made, 0);
        if (made != 0) {
            return;
        }
        try (URLClassLoader loader = new URLClassLoader(new URL[] {room.toUri().toURL()})) {
            Method run = loader.loadClass("ReadmeRun").getMethod("run");
            run.invoke(null);
        }
    }

    private static void everyCall(String readme) {
        for (Method m : OddCancel.class.getDeclaredMethods()) {
            boolean open = java.lang.reflect.Modifier.isPublic(m.getModifiers());
            KIT.due("README.md names " + m.getName(), !open || readme.contains("`" + m.getName() + "`")
                || readme.contains("`" + m.getName() + "()`"), true);
        }
    }

    public static void main(String[] args) throws IOException, ReflectiveOperationException {
        String readme = Files.readString(Path.of("README.md"));
        Path room = Files.createTempDirectory("readme");
        try {
            run(room, program(readme));
        } finally {
            List<Path> all;
            try (Stream<Path> found = Files.walk(room)) {
                all = found.sorted(Comparator.reverseOrder()).toList();
            }
            for (Path one : all) {
                Files.delete(one);
            }
        }
        everyCall(readme);
        KIT.end("ReadmeTest");
    }
}
