import java.io.File;
import java.io.IOException;
import java.lang.reflect.Method;
import java.lang.reflect.Modifier;
import java.net.URL;
import java.net.URLClassLoader;
import java.nio.file.Files;
import java.nio.file.Path;
import java.util.ArrayList;
import java.util.List;
import java.util.regex.Matcher;
import java.util.regex.Pattern;
import javax.tools.JavaCompiler;
import javax.tools.ToolProvider;

/** The Java blocks of README.md are one program: it is compiled and run, and its calls answer what is told there. */
public final class ReadmeTests {
    private static final Check CHECK = new Check();
    /** A call of the class, perhaps kept in a variable, and its answer as the comment's first word. */
    private static final Pattern TOLD =
        Pattern.compile("(?:int (\\w+) = )?(house\\..*);\\s*// (-?\\d+|true|false)(?::.*)?");
    private static final int LEAST_TOLD = 30;

    private ReadmeTests() {
    }

    public static void main(String[] args) throws Exception {
        List<String> readme = Files.readAllLines(Path.of("README.md"));
        namesEachCall(readme);
        Path folder = Files.createTempDirectory("readme");
        try {
            Path program = folder.resolve("ReadmeProgram.java");
            Files.write(program, programOf(blocksOf(readme)));
            if (compile(program, folder)) {
                run(folder);
            }
        } finally {
            clear(folder);
        }
        CHECK.end("ReadmeTests");
    }

    /** The program tells an answer, and the one in README.md; public, since another loader has the program. */
    public static void due(String line, Object got, Object told) {
        CHECK.promise("README.md");
        CHECK.yes(line + " answers " + got, String.valueOf(got).equals(String.valueOf(told)));
    }

    private static void namesEachCall(List<String> readme) {
        CHECK.promise("README.md");
        String text = String.join("\n", readme);
        for (Method call : ColourHouse.class.getDeclaredMethods()) {
            if (Modifier.isPublic(call.getModifiers())) {
                CHECK.yes("the name of " + call.getName(), text.contains("`" + call.getName() + "`"));
            }
        }
    }

    private static List<String> blocksOf(List<String> readme) {
        List<String> lines = new ArrayList<>();
        boolean inside = false;
        for (String line : readme) {
            if (line.startsWith("```")) {
                inside = line.equals("```java");
            } else if (inside) {
                lines.add(line);
            }
        }
        return lines;
    }

    private static List<String> programOf(List<String> lines) {
        List<String> program = new ArrayList<>();
        program.add("public final class ReadmeProgram {");
        program.add("public static void main(String[] args) {");
        int told = 0;
        for (String line : lines) {
            Matcher call = TOLD.matcher(line);
            if (!call.matches()) {
                CHECK.no("an answer that can't be read: " + line, line.contains("//"));
                program.add(line);
                continue;
            }
            told++;
            String kept = call.group(1);
            if (kept != null) {
                program.add("int " + kept + " = " + call.group(2) + ";");
            }
            program.add("ReadmeTests.due(\"" + call.group(2) + "\", " + (kept == null ? call.group(2) : kept) + ", "
                + call.group(3) + ");");
        }
        program.add("}");
        program.add("}");
        CHECK.yes("calls with answers: " + told, told >= LEAST_TOLD);
        return program;
    }

    private static boolean compile(Path program, Path folder) {
        JavaCompiler javac = ToolProvider.getSystemJavaCompiler();
        int end = javac.run(null, null, null, "-cp", System.getProperty("java.class.path"), "-d", folder.toString(),
            program.toString());
        CHECK.same("javac of the blocks", end, 0);
        return end == 0;
    }

    private static void run(Path folder) throws Exception {
        try (URLClassLoader loader = new URLClassLoader(new URL[] {folder.toUri().toURL()},
                ReadmeTests.class.getClassLoader())) {
            loader.loadClass("ReadmeProgram").getMethod("main", String[].class).invoke(null, (Object) new String[0]);
        }
    }

    private static void clear(Path folder) throws IOException {
        File[] files = folder.toFile().listFiles();
        if (files != null) {
            for (File file : files) {
                Files.deleteIfExists(file.toPath());
            }
        }
        Files.deleteIfExists(folder);
    }
}
