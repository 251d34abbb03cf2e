import java.io.IOException;
import java.lang.reflect.Method;
import java.lang.reflect.Modifier;
import java.net.URL;
import java.net.URLClassLoader;
import java.nio.charset.StandardCharsets;
import java.nio.file.Files;
import java.nio.file.Path;
import java.util.ArrayList;
import java.util.Comparator;
import java.util.HashSet;
import java.util.List;
import java.util.Set;
import java.util.TreeSet;
import java.util.function.Supplier;
import java.util.regex.Matcher;
import java.util.regex.Pattern;
import java.util.stream.Stream;

/** README.md is right: each call that it shows is made and has the answer that it shows, each command does its work. */
public final class ReadmeTest {
    private static final String ALL_TESTS = "bash .ci/run";
    private static final Pattern BEGIN = Pattern.compile("Gatesquare \\w+ = new Gatesquare\\(\\);");
    private static final Pattern CALL = Pattern.compile(
            "((?:int|String|boolean|long) \\w+ = )?(\\w+\\.(\\w+)\\([^()]*\\));\\s+// (throws \\w+|\"[^\"]*\"|-?\\d+|true|false)(: .+)?");
    private static final Set<String> shownNames = new TreeSet<>();
    private static final Set<String> shownRefusals = new TreeSet<>();
    private static int calls = 0;
    private static int wrong = 0;

    /** A piece between two lines of three backticks. */
    private record Piece(String kind, int firstLine, List<String> lines) {
    }

    public static void main(String[] args) throws Exception {
        Path project = Path.of(args.length > 0 ? args[0] : ".").toAbsolutePath().normalize();
        List<String> readme = Files.readAllLines(project.resolve("README.md"));
        List<Piece> pieces = piecesOf(readme);
        Path room = Files.createTempDirectory("readme");
        try {
            runExamples(pieces, room);
            checkThatAllIsShown();
            runCommands(pieces, project, room);
            checkNamesOfTests(String.join("\n", readme), project);
        } finally {
            remove(room);
        }
        System.out.println("ReadmeTest: " + calls + " calls, " + wrong + " wrong");
        if (wrong != 0) {
            System.exit(1);
        }
    }

    private static void complain(int line, String what) {
        wrong++;
        System.out.println("README.md:" + line + ": " + what);
    }

    private static List<Piece> piecesOf(List<String> readme) {
        List<Piece> pieces = new ArrayList<>();
        Piece open = null;
        for (int k = 0; k < readme.size(); k++) {
            String line = readme.get(k);
            if (line.startsWith("```") && open == null) {
                open = new Piece(line.substring(3), k + 2, new ArrayList<>());
            } else if (line.startsWith("```")) {
                pieces.add(open);
                open = null;
            } else if (open != null) {
                open.lines().add(line);
            }
        }
        if (open != null) {
            complain(open.firstLine(), "a piece without an end");
        }
        return pieces;
    }

    private static boolean isProgram(Piece piece) {
        return piece.kind().equals("java") && piece.lines().get(0).startsWith("public final class ");
    }

    // ---- the calls

    /** What the compiled examples call: the answer as README.md would show it. */
    public static <T> T ask(int line, String call, String shown, Supplier<T> asked) {
        T answer = null;
        String told;
        try {
            answer = asked.get();
            told = answer instanceof String ? "\"" + answer + "\"" : String.valueOf(answer);
        } catch (RuntimeException e) {
            told = "throws " + e.getClass().getSimpleName();
        }
        calls++;
        if (!told.equals(shown)) {
            complain(line, call + " answers " + told + ", shown is " + shown);
        }
        return answer;
    }

    private static void runExamples(List<Piece> pieces, Path room) throws Exception {
        StringBuilder source = new StringBuilder("public final class ReadmeExamples {\n    public static void run() {\n");
        for (Piece piece : pieces) {
            if (piece.kind().equals("java") && !isProgram(piece)) {
                addExamples(source, piece);
            }
        }
        source.append("    }\n}\n");
        Path file = Files.writeString(room.resolve("ReadmeExamples.java"), source);
        Process compiler = new ProcessBuilder("javac", "-cp", System.getProperty("java.class.path"), "-d", room.toString(),
                file.toString()).inheritIO().start();
        if (compiler.waitFor() != 0) {
            complain(0, "the examples can not be compiled");
            return;
        }
        try (URLClassLoader loader = new URLClassLoader(new URL[] {room.toUri().toURL()}, ReadmeTest.class.getClassLoader())) {
            loader.loadClass("ReadmeExamples").getMethod("run").invoke(null);
        }
    }

    private static void addExamples(StringBuilder source, Piece piece) {
        source.append("        {\n");
        for (int k = 0; k < piece.lines().size(); k++) {
            String line = piece.lines().get(k);
            int number = piece.firstLine() + k;
            Matcher call = CALL.matcher(line);
            if (BEGIN.matcher(line).matches()) {
                source.append("            ").append(line).append('\n');
            } else if (call.matches()) {
                shownNames.add(call.group(3));
                if (call.group(4).startsWith("throws ")) {
                    shownRefusals.add(call.group(4).substring(7));
                }
                source.append("            ").append(call.group(1) == null ? "" : call.group(1))
                        .append("ReadmeTest.ask(").append(number).append(", ").append(quoted(call.group(2))).append(", ")
                        .append(quoted(call.group(4))).append(", () -> ").append(call.group(2)).append(");\n");
            } else {
                complain(number, "neither a new object nor a call with its answer: " + line);
            }
        }
        source.append("        }\n");
    }

    private static String quoted(String text) {
        return "\"" + text.replace("\\", "\\\\").replace("\"", "\\\"") + "\"";
    }

    private static void checkThatAllIsShown() {
        Set<String> refusals = new TreeSet<>();
        for (Method method : Gatesquare.class.getDeclaredMethods()) {
            if (Modifier.isPublic(method.getModifiers())) {
                if (!shownNames.contains(method.getName())) {
                    complain(0, "no example of " + method.getName());
                }
                for (Class<?> refusal : method.getExceptionTypes()) {
                    refusals.add(refusal.getSimpleName());
                }
            }
        }
        if (!shownRefusals.equals(refusals)) {
            complain(0, "the refusals shown are " + shownRefusals + ", there are " + refusals);
        }
    }

    // ---- the commands, in a copy of the project

    private static void runCommands(List<Piece> pieces, Path project, Path room) throws Exception {
        Path copy = room.resolve("copy");
        for (String part : List.of("src", ".ci")) {
            copyAll(project.resolve(part), copy.resolve(part));
        }
        Path shared = project.resolve("../shared").normalize();
        if (Files.exists(shared)) {
            Files.createSymbolicLink(room.resolve("shared"), shared);
        }
        Set<String> commands = new HashSet<>();
        for (int k = 0; k < pieces.size(); k++) {
            Piece piece = pieces.get(k);
            if (isProgram(piece)) {
                String name = piece.lines().get(0).split(" ")[3];
                Files.write(copy.resolve(name + ".java"), piece.lines());
            }
            if (piece.kind().equals("sh")) {
                commands.addAll(piece.lines());
                boolean isShown = k + 1 < pieces.size() && pieces.get(k + 1).kind().equals("text");
                String last = runAll(piece, copy);
                if (isShown && !last.equals(String.join("\n", pieces.get(k + 1).lines()) + "\n")) {
                    complain(pieces.get(k + 1).firstLine(), "the command prints: " + last);
                }
            }
        }
        if (!commands.contains(ALL_TESTS)) {
            complain(0, "does not name the command that runs all tests");
        }
        if (commands.stream().noneMatch(command -> command.matches(Pattern.quote(ALL_TESTS) + " \\w+Test"))) {
            complain(0, "does not name a command that runs a single test");
        }
    }

    /** What the last one of the commands prints. All tests are run already when this test is. */
    private static String runAll(Piece piece, Path copy) throws Exception {
        String printed = "";
        for (int k = 0; k < piece.lines().size(); k++) {
            String command = piece.lines().get(k);
            if (!command.equals(ALL_TESTS)) {
                Process process = new ProcessBuilder("bash", "-c", command).directory(copy.toFile()).redirectErrorStream(true).start();
                printed = new String(process.getInputStream().readAllBytes(), StandardCharsets.UTF_8);
                if (process.waitFor() != 0) {
                    complain(piece.firstLine() + k, "the command fails: " + command + "\n" + printed);
                }
                if (command.startsWith(ALL_TESTS) && !printed.contains("\n" + (command.split(" ").length - 2) + " passed, 0 failed\n")) {
                    complain(piece.firstLine() + k, "the command runs other tests than those it names: " + command + "\n" + printed);
                }
            }
        }
        return printed;
    }

    private static void checkNamesOfTests(String readme, Path project) throws IOException {
        Set<String> there = new TreeSet<>();
        try (Stream<Path> files = Files.list(project.resolve("src/test/java"))) {
            files.map(file -> file.getFileName().toString().replace(".java", ""))
                    .filter(name -> name.endsWith("Test")).forEach(there::add);
        }
        Set<String> named = new TreeSet<>();
        Matcher names = Pattern.compile("`(\\w+Test)`").matcher(readme);
        while (names.find()) {
            named.add(names.group(1));
        }
        if (!named.equals(there)) {
            complain(0, "names the tests " + named + ", there are " + there);
        }
    }

    private static void copyAll(Path from, Path to) throws IOException {
        try (Stream<Path> files = Files.walk(from)) {
            for (Path file : (Iterable<Path>) files::iterator) {
                Path target = to.resolve(from.relativize(file).toString());
                Files.createDirectories(target.getParent());
                Files.copy(file, target);
            }
        }
    }

    private static void remove(Path room) throws IOException {
        try (Stream<Path> files = Files.walk(room)) {
            for (Path file : (Iterable<Path>) files.sorted(Comparator.reverseOrder())::iterator) {
                Files.delete(file);
            }
        }
    }
}
