import java.io.ByteArrayOutputStream;
import java.io.IOException;
import java.io.PrintStream;
import java.net.URL;
import java.net.URLClassLoader;
import java.nio.charset.StandardCharsets;
import java.nio.file.DirectoryStream;
import java.nio.file.Files;
import java.nio.file.Path;
import java.util.ArrayList;
import java.util.List;
import java.util.regex.Matcher;
import java.util.regex.Pattern;

/** The examples of README.md compile and answer what it says, and it names every test. */
public final class ReadmeTest {
    private static final Due due = new Due();
    private static final Pattern BLOCK = Pattern.compile("```(java|text)\n(.*?)```", Pattern.DOTALL);
    /** A call alone on its line, and its answer: a number, or a constant of the class. */
    private static final Pattern CALL = Pattern.compile("(?m)^(x\\.[^;]*);\\s*// (-?\\d+|[A-Z]{3,})\\b.*$");
    private static final int LEAST_CALLS = 40;

    public static void main(String[] args) throws Exception {
        String page = Files.readString(Path.of("README.md"));
        Path room = Files.createTempDirectory("readme");
        try {
            examples(page, room);
        } finally {
            empty(room);
        }
        namesEveryTest(page);
        due.finish();
    }

    private static void examples(String page, Path room) throws Exception {
        List<String> snippets = new ArrayList<>();
        String program = null;
        String printed = null;
        Matcher m = BLOCK.matcher(page);
        while (m.find()) {
            String code = m.group(2);
            if (m.group(1).equals("text")) {
                printed = code;
            } else if (code.startsWith("public class Hall ")) {
                program = code;
            } else {
                snippets.add(code);
            }
        }
        due.isTrue("README.md has a program and what it prints", program != null && printed != null);
        due.is("calls of README.md are enough", Math.min(LEAST_CALLS, calls(snippets)), LEAST_CALLS);
        if (program != null && printed != null) {
            due.isTrue("the program prints what README.md says", run(room, "Hall", program).equals(printed));
        }
        due.isTrue("the calls answer what README.md says", run(room, "Snippets", asProgram(snippets)).isEmpty());
    }

    private static int calls(List<String> snippets) {
        int sum = 0;
        for (String snippet : snippets) {
            sum += (int) CALL.matcher(snippet).results().count();
        }
        return sum;
    }

    /** The snippets as one program, in which each call with an answer behind it is held against that. */
    private static String asProgram(List<String> snippets) {
        StringBuilder s = new StringBuilder("public class Snippets {\n"
            + "static void is(String call, int got, int due) {\n"
            + "if (got != due) System.out.println(call + \" answered \" + got + \", README.md says \" + due);\n}\n"
            + "public static void main(String[] args) {\n"
            + "int NONE = ThreeHeirs.NONE, UNKNOWN = ThreeHeirs.UNKNOWN, OUTSIDE = ThreeHeirs.OUTSIDE,"
            + " NOT = ThreeHeirs.NOT, FULL = ThreeHeirs.FULL;\n");
        for (String snippet : snippets) {
            s.append("{\n").append(CALL.matcher(snippet).replaceAll("is(\"$1\", $1, $2);")).append("}\n");
        }
        return s.append("}\n}\n").toString();
    }

    /** Compiles a program against the classes of the tests and answers what it prints. */
    private static String run(Path room, String name, String code) throws Exception {
        Path file = room.resolve(name + ".java");
        Files.writeString(file, code);
        int failed = new ProcessBuilder("javac", "-cp", System.getProperty("java.class.path"), "-d", room.toString(),
            file.toString()).inheritIO().start().waitFor();
        due.is(name + " of README.md compiles", failed, 0);
        if (failed != 0) {
            return "";
        }
        PrintStream screen = System.out;
        ByteArrayOutputStream paper = new ByteArrayOutputStream();
        try (URLClassLoader loader = new URLClassLoader(new URL[] {room.toUri().toURL()})) {
            System.setOut(new PrintStream(paper, true, StandardCharsets.UTF_8));
            loader.loadClass(name).getMethod("main", String[].class).invoke(null, (Object) new String[0]);
        } finally {
            System.setOut(screen);
        }
        String printed = paper.toString(StandardCharsets.UTF_8).replace("\r\n", "\n");
        if (name.equals("Snippets")) {
            System.out.print(printed);
        }
        return printed;
    }

    private static void namesEveryTest(String page) throws IOException {
        try (DirectoryStream<Path> tests = Files.newDirectoryStream(Path.of("src/test/java"), "*.java")) {
            for (Path test : tests) {
                String name = test.getFileName().toString().replace(".java", "");
                due.isTrue("README.md names " + name, page.contains("`" + name + "`"));
            }
        }
    }

    private static void empty(Path room) throws IOException {
        try (DirectoryStream<Path> files = Files.newDirectoryStream(room)) {
            for (Path file : files) {
                Files.delete(file);
            }
        }
        Files.delete(room);
    }
}
