import java.io.ByteArrayOutputStream;
import java.io.File;
import java.io.IOException;
import java.io.InputStream;
import java.lang.reflect.Method;
import java.lang.reflect.Modifier;
import java.nio.charset.StandardCharsets;
import java.nio.file.Files;
import java.nio.file.Path;
import java.util.Comparator;
import java.util.List;
import java.util.stream.Collectors;
import java.util.stream.Stream;
import javax.tools.JavaCompiler;
import javax.tools.ToolProvider;

/** README.md: its example compiles and prints what stands there, and it names every call and every test. */
public final class ReadmeTest {
    private static int wrong;

    private ReadmeTest() {
    }

    public static void main(String[] args) throws IOException, InterruptedException {
        String page = Files.readString(Path.of("README.md"));
        example(page);
        calls(page);
        tests(page);
        System.out.println("ReadmeTest: " + wrong + " wrong");
        if (wrong != 0) {
            System.exit(1);
        }
    }

    private static void holds(boolean fine, String what) {
        if (!fine) {
            wrong++;
            System.out.println("ReadmeTest: " + what);
        }
    }

    /** What stands in the first block of that kind; null if there is none. */
    private static String block(String page, String kind) {
        String head = "\n```" + kind + "\n";
        int start = page.indexOf(head);
        int end = start < 0 ? -1 : page.indexOf("```\n", start + head.length());
        return end < 0 ? null : page.substring(start + head.length(), end);
    }

    private static void example(String page) throws IOException, InterruptedException {
        String program = block(page, "java");
        String due = block(page, "text");
        holds(program != null && due != null && !due.isBlank(), "no example, or not what it prints");
        if (program == null || due == null) {
            return;
        }
        Path room = Files.createTempDirectory("readme");
        try {
            Path file = Files.writeString(room.resolve("Example.java"), program);
            String path = room + File.pathSeparator + System.getProperty("java.class.path");
            JavaCompiler javac = ToolProvider.getSystemJavaCompiler();
            boolean compiled = javac != null && javac.run(null, null, null,
                    "--release", "17", "-cp", path, "-d", room.toString(), file.toString()) == 0;
            holds(compiled, "the example does not compile");
            if (compiled) {
                String printed = printedBy(path);
                holds(printed.equals(due), "the example printed\n" + printed);
            }
        } finally {
            remove(room);
        }
    }

    private static String printedBy(String path) throws IOException, InterruptedException {
        String java = Path.of(System.getProperty("java.home"), "bin", "java").toString();
        Process process = new ProcessBuilder(java, "-cp", path, "Example").redirectErrorStream(true).start();
        ByteArrayOutputStream all = new ByteArrayOutputStream();
        try (InputStream in = process.getInputStream()) {
            in.transferTo(all);
        }
        holds(process.waitFor() == 0, "the example failed");
        return all.toString(StandardCharsets.UTF_8).replace("\r\n", "\n");
    }

    private static void remove(Path room) throws IOException {
        List<Path> all;
        try (Stream<Path> walk = Files.walk(room)) {
            all = walk.sorted(Comparator.reverseOrder()).collect(Collectors.toList());
        }
        for (Path path : all) {
            Files.delete(path);
        }
    }

    private static void calls(String page) {
        for (Method method : MeshWorlds.class.getDeclaredMethods()) {
            if (Modifier.isPublic(method.getModifiers())) {
                holds(page.contains("`" + method.getName() + "`"), "the call " + method.getName() + " is not named");
            }
        }
    }

    private static void tests(String page) throws IOException {
        List<Path> files;
        try (Stream<Path> walk = Files.list(Path.of("src/test/java"))) {
            files = walk.sorted().collect(Collectors.toList());
        }
        for (Path file : files) {
            String name = file.getFileName().toString().replace(".java", "");
            if (Files.readString(file).contains("static void main(")) {
                holds(page.contains("`" + name + "`"), "the test " + name + " is not named");
            }
        }
    }
}
