import java.io.IOException;
import java.nio.file.Files;
import java.nio.file.Path;
import java.util.ArrayList;
import java.util.List;
import java.util.Map;
import java.util.TreeMap;
import java.util.function.Consumer;
import java.util.function.Supplier;
import java.util.regex.Matcher;
import java.util.regex.Pattern;

/** Runs tests of which each says the promise, and the sentence of the document, that it holds; knows which are not held. */
final class Sentences {
    static final String ORDER = "If several exceptions apply, the one that is documented first is thrown.";
    /** Words by which a line of a promise names a boundary: numbers, none, the same one, the first and the last one. */
    private static final Pattern BOUNDARY = Pattern.compile("\\d|\\b(none|no|not|same|another|empty|any|unlike|without"
            + "|in place of|away|kept|round|first|last|least|fewest|ahead|other)\\b");

    /** For each promise the lines of its section; for 0 the sentences that stand ahead of all promises. */
    private final Map<Integer, List<String>> lines = new TreeMap<>();
    /** For each promise what its tests hold. */
    private final Map<Integer, List<String>> held = new TreeMap<>();
    /** Whether each test is told with its promise and its sentence, not only those that fail. */
    private final boolean isTold;
    private String test = "";
    private int tests = 0;
    private int answers = 0;
    private int wrong = 0;

    Sentences(Path document, boolean isTold) throws IOException {
        this.isTold = isTold;
        String text = Files.readString(document);
        String[] parts = text.split("\n## ");
        lines.put(0, new ArrayList<>());
        for (String part : parts) {
            String body = part.substring(part.indexOf('\n') + 1);
            Matcher promise = Pattern.compile("Promise (\\d+): ").matcher(part);
            if (promise.lookingAt()) {
                lines.put(Integer.parseInt(promise.group(1)), linesOf(body));
            } else if (part.startsWith("What it is") || part.startsWith("Terms")) {
                lines.get(0).addAll(List.of(plain(body).split("(?<=\\.) (?=[A-Z])")));
            }
        }
    }

    private static String plain(String text) {
        return text.replaceAll("\\s+", " ").trim();
    }

    private static List<String> linesOf(String body) {
        List<String> found = new ArrayList<>();
        for (String paragraph : body.trim().split("\n\n")) {
            for (String item : paragraph.split("\n(?=- )")) {
                found.add(plain(item).replaceFirst("^(- |`[^`]*`: )", ""));
            }
        }
        return found;
    }

    /** One test; its sentence, or the part of one, must stand in the document, at the promise or ahead of all of them. */
    void hold(int promise, String sentence, Runnable run) {
        tests++;
        test = "promise " + promise + ", \"" + sentence + "\"";
        if (isTold) {
            System.out.println(test);
        }
        held.computeIfAbsent(promise, none -> new ArrayList<>()).add(sentence);
        boolean isThere = false;
        for (int section : new int[] {0, promise}) {
            for (String line : lines.get(section)) {
                isThere |= line.contains(sentence);
            }
        }
        if (!isThere) {
            tell("is no sentence of the document");
        }
        try {
            run.run();
        } catch (RuntimeException thrown) {
            tell("threw " + thrown + " at line " + lineOf(thrown));
        }
    }

    private void tell(String fault) {
        wrong++;
        System.out.println(test + ": " + fault);
    }

    /** The first line that is one of a test. */
    private static String lineOf(Throwable thrown) {
        for (StackTraceElement at : thrown.getStackTrace()) {
            if (at.getClassName().matches("\\w+Boundaries")) {
                return at.getFileName() + ":" + at.getLineNumber();
            }
        }
        return "none";
    }

    void due(Object want, Object got) {
        answers++;
        if (!want.equals(got)) {
            tell(lineOf(new Throwable()) + " answered " + got + ", due is " + want);
        }
    }

    void thrown(Class<?> want, Supplier<Object> call) {
        answers++;
        Object got;
        try {
            got = call.get();
        } catch (RuntimeException thrown) {
            got = thrown.getClass();
        }
        if (got != want) {
            tell(lineOf(new Throwable()) + " answered " + got + ", due is " + want);
        }
    }

    /** A call that throws changes nothing: the object answers like its twin, which never got the call. */
    void refused(Class<?> want, Supplier<Lastbus> made, Consumer<Lastbus> call) {
        Lastbus x = made.get();
        refusedOn(want, x, call);
        sameButFault(Tables.asked(x), Tables.asked(made.get()), false);
    }

    /** As refused, but the place of the fault is another one then. */
    void refusedRow(Supplier<Lastbus> made, int place) {
        Lastbus x = made.get();
        refusedOn(IllegalArgumentException.class, x, Lastbus::readRow);
        due(place, x.faultAt());
        sameButFault(Tables.asked(x), Tables.asked(made.get()), true);
    }

    /** What is asked of a table, to see that nothing was changed, would show what this call changes. */
    void seen(Supplier<Lastbus> made, Consumer<Lastbus> call) {
        Lastbus x = made.get();
        call.accept(x);
        answers++;
        if (Tables.asked(x).equals(Tables.asked(made.get()))) {
            tell(lineOf(new Throwable()) + " changed nothing that is asked");
        }
    }

    private void refusedOn(Class<?> want, Lastbus x, Consumer<Lastbus> call) {
        thrown(want, () -> {
            call.accept(x);
            return "without an exception";
        });
    }

    private void sameButFault(String got, String want, boolean isFaultNew) {
        answers++;
        String[] then = got.split("\n");
        String[] ahead = want.split("\n");
        for (int i = isFaultNew ? 1 : 0; i < ahead.length; i++) {
            if (!ahead[i].equals(then[i])) {
                tell(lineOf(new Throwable()) + " changed \"" + ahead[i] + "\" to \"" + then[i] + "\"");
            }
        }
    }

    /** Each line that names a boundary, each exception, and the order of exceptions must be held by a test. */
    void needAll() {
        for (Map.Entry<Integer, List<String>> section : lines.entrySet()) {
            int promise = section.getKey();
            test = "promise " + promise;
            int exceptions = 0;
            for (String line : section.getValue()) {
                exceptions += line.startsWith("Throws ") ? 1 : 0;
                boolean names = promise == 0 ? isSentence(line) : line.startsWith("Throws ") || BOUNDARY.matcher(line).find();
                if (names && !isHeld(promise, line)) {
                    tell("no test holds \"" + line + "\"");
                }
            }
            if (exceptions > 1 && !held.getOrDefault(promise, List.of()).contains(ORDER)) {
                tell("no test holds the order of its exceptions");
            }
        }
    }

    /** Ahead of all promises: not a heading, what the document begins with, or what only points to the calls. */
    private static boolean isSentence(String line) {
        boolean isHeading = line.startsWith("Part ") || line.indexOf(' ') < 0;
        boolean isOpening = line.startsWith("Timetables ") || line.startsWith("The class drives ");
        return !isHeading && !isOpening && !line.startsWith("Ahead of the calls ");
    }

    private boolean isHeld(int promise, String line) {
        for (Map.Entry<Integer, List<String>> of : held.entrySet()) {
            if (promise == 0 || promise == of.getKey()) {
                for (String sentence : of.getValue()) {
                    if (line.contains(sentence)) {
                        return true;
                    }
                }
            }
        }
        return false;
    }

    int wrong() {
        return wrong;
    }

    String sum() {
        return tests + " tests, " + answers + " answers, " + wrong + " wrong";
    }
}
