import java.io.File;
import java.io.IOException;
import java.lang.reflect.Method;
import java.lang.reflect.Modifier;
import java.nio.charset.StandardCharsets;
import java.nio.file.Files;
import java.nio.file.Path;
import java.util.ArrayList;
import java.util.Comparator;
import java.util.List;
import java.util.Set;
import java.util.TreeSet;
import java.util.regex.Matcher;
import java.util.regex.Pattern;
import java.util.stream.Collectors;
import java.util.stream.Stream;

/** The calls that README.md shows answer as it says, and what it says of running the tests is so. */
public final class ReadmeTests {
    /** A call, and behind it its answer: a number, a sign, or constants of the class. */
    private static final Pattern ANSWERED = Pattern.compile(
        "x\\.(\\w+)\\((.*)\\); +// (-?\\d+|'.'|[A-Z]+(?: \\+ [A-Z]+)?)(?::.*)?");
    private static final Pattern NAME = Pattern.compile("\\b([A-Z]{2,})\\b");
    private static final String CLASS = "src/main/java/LostDigits.java";
    private static final String RIGHT = "public final class %s { public static void main(String[] a) { } }\n";
    private static final String WRONG = "public final class %s { public static void main(String[] a) { System.exit(1); } }\n";

    private static int checks = 0;
    private static int wrong = 0;

    public static void main(String[] args) throws Exception {
        String readme = Files.readString(Path.of("README.md"));
        Path room = Files.createTempDirectory("readme");
        try {
            checkCalls(readme, room);
            checkNamedTests(readme);
            checkCommands(readme, room);
            checkRun(room);
        } finally {
            remove(room);
        }
        System.out.println("README.md: " + checks + " checks, " + wrong + " wrong");
        if (wrong != 0) {
            System.exit(1);
        }
    }

    private static void check(boolean isRight, String what) {
        checks++;
        if (!isRight) {
            wrong++;
            System.out.println(what);
        }
    }

    /** What stands in a page between the marks of a block of one kind. */
    private static List<String> blocks(String page, String kind) {
        List<String> all = new ArrayList<>();
        Matcher found = Pattern.compile("```" + kind + "\n(.*?)```", Pattern.DOTALL).matcher(page);
        while (found.find()) {
            all.add(found.group(1));
        }
        return all;
    }

    /** The blocks are compiled as they stand, but that each answered call is compared with its answer. */
    private static void checkCalls(String readme, Path room) throws Exception {
        Set<String> shown = new TreeSet<>();
        StringBuilder source = new StringBuilder("public final class ReadmeCalls {\n    private static int wrong = 0;\n"
            + "    private static void due(String call, long got, long want) {\n        if (got != want) {\n"
            + "            wrong++;\n            System.out.println(\"README.md: \" + call + \" (answered: \" + got + \")\");\n        }\n    }\n"
            + "    public static void main(String[] args) {\n");
        for (String block : blocks(readme, "java")) {
            source.append("        {\n");
            for (String line : block.split("\n")) {
                source.append(compared(line, shown)).append('\n');
            }
            source.append("        }\n");
        }
        source.append("        System.exit(wrong == 0 ? 0 : 1);\n    }\n}\n");
        check(shown.equals(faceNames()), "README.md shows the answers of " + shown + ", the class has " + faceNames());
        Path file = room.resolve("ReadmeCalls.java");
        Files.writeString(file, source);
        check(run(Path.of(""), "javac", "-cp", classes(), "-d", room.toString(), file.toString()) == 0,
            "the calls that README.md shows can't be compiled");
        check(run(Path.of(""), "java", "-cp", classes() + File.pathSeparator + room, "ReadmeCalls") == 0,
            "a call that README.md shows answers otherwise");
    }

    private static String compared(String line, Set<String> shown) {
        Matcher call = ANSWERED.matcher(line);
        if (!call.matches()) {
            check(!line.startsWith("x."), "README.md tells no answer: " + line);
            return line;
        }
        shown.add(call.group(1));
        checks++;
        String answer = call.group(3);
        String want = answer.matches("-?\\d+") ? answer + "L" : NAME.matcher(answer).replaceAll("LostDigits.$1");
        String made = "x." + call.group(1) + "(" + call.group(2) + ")";
        return "due(\"" + line.replace("\"", "\\\"") + "\", " + made + ", " + want + ");";
    }

    private static Set<String> faceNames() {
        Set<String> names = new TreeSet<>();
        for (Method m : LostDigits.class.getDeclaredMethods()) {
            if (Modifier.isPublic(m.getModifiers())) {
                names.add(m.getName());
            }
        }
        return names;
    }

    private static String classes() {
        return System.getProperty("java.class.path");
    }

    /** The list of the project's tests is whole, and names none that is not there. */
    private static void checkNamedTests(String readme) throws IOException {
        Set<String> named = new TreeSet<>();
        Matcher item = Pattern.compile("^- ((?:`\\w+`(?:, )?)+):", Pattern.MULTILINE).matcher(readme);
        while (item.find()) {
            for (String name : item.group(1).split(", ")) {
                named.add(name.replace("`", "") + ".java");
            }
        }
        try (Stream<Path> files = Files.list(Path.of("src/test/java"))) {
            Set<String> there = files.map(f -> f.getFileName().toString()).collect(Collectors.toCollection(TreeSet::new));
            check(named.equals(there), "README.md names the tests " + named + ", there are " + there);
        }
    }

    /** The commands are run as they stand, in a copy; but not the one that is running this test. */
    private static void checkCommands(String readme, Path room) throws Exception {
        Path copy = room.resolve("commands");
        copyAll(Path.of("src"), copy.resolve("src"));
        List<String> commands = blocks(readme, "sh");
        check(commands.size() == 2 && commands.get(0).equals(".ci/run\n"), "the commands are " + commands);
        check(Files.isExecutable(Path.of(".ci/run")), ".ci/run can't be run");
        for (String command : commands.subList(1, commands.size())) {
            check(run(copy, "bash", "-e", "-c", command) == 0, "this command of README.md fails: " + command);
        }
    }

    /** Whether .ci/run compiles with all warnings as errors, runs the tests at both places, and fails if one fails. */
    private static void checkRun(Path room) throws Exception {
        String whole = Files.readString(Path.of(CLASS));
        String warned = whole.replace("private int padded;", "private int padded; java.util.List raw;");
        check(!warned.equals(whole), "no warning was put into the class");
        checkRunOf(room, "AllRight", whole, RIGHT, RIGHT, true);
        checkRunOf(room, "OneOfProject", whole, WRONG, RIGHT, false);
        checkRunOf(room, "OneOfShared", whole, RIGHT, WRONG, false);
        checkRunOf(room, "NoneOfProject", whole, null, RIGHT, false);
        checkRunOf(room, "NoneOfShared", whole, RIGHT, null, false);
        checkRunOf(room, "Uncompiled", whole, RIGHT, "no test", false);
        checkRunOf(room, "Warned", warned, RIGHT, RIGHT, false);
    }

    private static void checkRunOf(Path room, String name, String source, String own, String shared, boolean passes)
            throws Exception {
        Path checkout = room.resolve(name).resolve("checkout");
        write(checkout.resolve(CLASS), source);
        if (own != null) {
            write(checkout.resolve("src/test/java/Own.java"), String.format(own, "Own"));
        }
        if (shared != null) {
            write(room.resolve(name).resolve("shared/tests/Shared.java"), String.format(shared, "Shared"));
        }
        Files.createDirectories(checkout.resolve(".ci"));
        Files.copy(Path.of(".ci/run"), checkout.resolve(".ci/run"));
        int code = start(checkout, new StringBuilder(), "bash", ".ci/run");
        check((code == 0) == passes, ".ci/run with " + name + " ends with " + code);
    }

    private static void write(Path file, String signs) throws IOException {
        Files.createDirectories(file.getParent());
        Files.writeString(file, signs);
    }

    private static void copyAll(Path from, Path to) throws IOException {
        try (Stream<Path> all = Files.walk(from)) {
            for (Path path : (Iterable<Path>) all::iterator) {
                Path target = to.resolve(from.relativize(path));
                if (Files.isDirectory(path)) {
                    Files.createDirectories(target);
                } else {
                    Files.copy(path, target);
                }
            }
        }
    }

    private static void remove(Path room) throws IOException {
        try (Stream<Path> all = Files.walk(room)) {
            for (Path path : all.sorted(Comparator.reverseOrder()).toList()) {
                Files.delete(path);
            }
        }
    }

    /** The exit code of a command; what it prints is shown if it fails. */
    private static int run(Path place, String... command) throws Exception {
        StringBuilder printed = new StringBuilder();
        int code = start(place, printed, command);
        if (code != 0) {
            System.out.print(printed);
        }
        return code;
    }

    private static int start(Path place, StringBuilder printed, String... command) throws Exception {
        Process process = new ProcessBuilder(command).directory(place.toAbsolutePath().toFile())
            .redirectErrorStream(true).start();
        printed.append(new String(process.getInputStream().readAllBytes(), StandardCharsets.UTF_8));
        return process.waitFor();
    }
}
