import java.io.IOException;
import java.net.URL;
import java.net.URLClassLoader;
import java.nio.file.Files;
import java.nio.file.Path;
import java.util.ArrayList;
import java.util.List;
import java.util.TreeSet;
import java.util.regex.Matcher;
import java.util.regex.Pattern;
import java.util.stream.Stream;
import javax.tools.JavaCompiler;
import javax.tools.ToolProvider;

/**
 * What README.md shows of calls and answers is what the class answers; it tells of each call of the document's face,
 * with its exceptions in their order; and it names each program of tests that there is.
 */
public final class ReadmeTests {
    private static final Pattern DECLARED = Pattern.compile("(int|boolean|long|float|double) (\\w+) = .*;");
    private static final Pattern ANSWERED = Pattern.compile("(.*;) *// ([^:]*)(: .*)?");
    private static final Pattern FACE = Pattern.compile("    public (\\w+ \\w+\\([^)]*\\))(?: throws (.*))?;");
    private static final Pattern TOLD = Pattern.compile("- `(\\w+ \\w+\\([^)]*\\))`: (.*)");
    private static int seen = 0;
    private static int wrong = 0;

    private static void need(boolean isFine, String what) {
        seen++;
        if (!isFine) {
            wrong++;
            System.out.println("ReadmeTests: " + what);
        }
    }

    // The program that asks what the page shows calls these two.

    /** A call that should throw. */
    public interface Call {
        Object ask();
    }

    public static void due(String line, Object got, String want) {
        need(String.valueOf(got).equals(want), line + " answered " + got);
    }

    public static void thrown(String line, Call call, String want) {
        Object got;
        try {
            got = call.ask();
        } catch (RuntimeException thrown) {
            got = "throws " + thrown.getClass().getSimpleName();
        }
        due(line, got, want);
    }

    /** The lines of Java on the page, each turned to one that checks its answer. */
    private static String program(List<String> page) {
        StringBuilder lines = new StringBuilder();
        boolean isJava = false;
        for (int i = 0; i < page.size(); i++) {
            String line = page.get(i).trim();
            if (line.startsWith("```")) {
                isJava = line.equals("```java");
            } else if (isJava && !line.isEmpty()) {
                lines.append("        ").append(checked(line, "line " + (i + 1))).append('\n');
            }
        }
        return "public final class ReadmeShown {\n    public static void main(String[] none) {\n" + lines + "    }\n}\n";
    }

    private static String checked(String line, String place) {
        Matcher answered = ANSWERED.matcher(line);
        if (!answered.matches()) {
            need(line.equals("Lastbus bus = new Lastbus();"), place + " shows no answer");
            return line;
        }
        String statement = answered.group(1);
        String call = statement.substring(0, statement.length() - 1);
        String end = ", \"" + answered.group(2).trim() + "\");";
        Matcher declared = DECLARED.matcher(statement);
        if (declared.matches()) {
            return statement + " ReadmeTests.due(\"" + place + "\", " + declared.group(2) + end;
        }
        if (end.contains("throws")) {
            return "ReadmeTests.thrown(\"" + place + "\", () -> " + call + end;
        }
        return "ReadmeTests.due(\"" + place + "\", " + call + end;
    }

    private static void runShown(List<String> page) throws Exception {
        Path folder = Files.createDirectories(Path.of("build/readme"));
        Path source = folder.resolve("ReadmeShown.java");
        Files.writeString(source, program(page));
        JavaCompiler compiler = ToolProvider.getSystemJavaCompiler();
        int failed = compiler.run(null, null, null, "-cp", System.getProperty("java.class.path"), source.toString());
        need(failed == 0, "what the page shows does not compile");
        if (failed == 0) {
            try (URLClassLoader loader = new URLClassLoader(new URL[] {folder.toUri().toURL()})) {
                loader.loadClass("ReadmeShown").getMethod("main", String[].class).invoke(null, (Object) new String[0]);
            }
        }
    }

    /** Each call with its exceptions in their order, as the document's face has them. */
    private static List<String> face() throws IOException {
        List<String> face = new ArrayList<>();
        for (String line : Files.readAllLines(Path.of("../shared/DOC.md"))) {
            Matcher of = FACE.matcher(line);
            if (of.matches()) {
                face.add(of.group(1) + " throws " + (of.group(2) == null ? "" : of.group(2)));
            }
        }
        return face;
    }

    /** The same, as the page tells it: an item for each call. */
    private static List<String> told(String page) {
        List<String> told = new ArrayList<>();
        for (String item : page.split("\n(?=- |\n|#)")) {
            Matcher of = TOLD.matcher(item.replaceAll("\\s+", " ").trim());
            if (of.matches()) {
                List<String> thrown = new ArrayList<>();
                Matcher exception = Pattern.compile("`(\\w+Exception)`").matcher(of.group(2));
                while (exception.find()) {
                    thrown.add(exception.group(1));
                }
                told.add(of.group(1) + " throws " + String.join(", ", thrown));
            }
        }
        return told;
    }

    private static void checkCalls(String page) throws IOException {
        List<String> face = face();
        List<String> told = told(page);
        need(face.size() == 52, "the document's face has " + face.size() + " calls");
        need(told.equals(face), "the calls of the page are not those of the document, in its order");
        for (String call : face) {
            need(told.contains(call), "the page does not tell " + call);
        }
        for (String call : told) {
            need(face.contains(call), "the page tells " + call);
        }
    }

    private static void checkTests(String page) throws IOException {
        TreeSet<String> there = new TreeSet<>();
        try (Stream<Path> files = Files.list(Path.of("src/test/java"))) {
            files.map(file -> file.getFileName().toString().replace(".java", "")).filter(name -> name.endsWith("Tests"))
                    .forEach(there::add);
        }
        for (String name : there) {
            need(page.contains("- `" + name + "`:"), "the page does not name " + name);
        }
    }

    public static void main(String[] args) throws Exception {
        Path readme = Path.of("README.md");
        String page = Files.readString(readme);
        checkCalls(page);
        checkTests(page);
        runShown(Files.readAllLines(readme));
        System.out.println("ReadmeTests: " + seen + " places looked at, " + wrong + " wrong");
        if (wrong > 0) {
            System.exit(1);
        }
    }
}
