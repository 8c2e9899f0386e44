import java.io.IOException;
import java.lang.reflect.Field;
import java.lang.reflect.Method;
import java.lang.reflect.Modifier;
import java.nio.charset.StandardCharsets;
import java.nio.file.Files;
import java.nio.file.Path;
import java.util.ArrayList;
import java.util.Arrays;
import java.util.Comparator;
import java.util.List;
import java.util.TreeMap;
import java.util.TreeSet;
import java.util.regex.Matcher;
import java.util.regex.Pattern;
import java.util.stream.Collectors;
import java.util.stream.Stream;

/** Follows README.md: its program prints what it says, its commands run, its tables and names of files hold. */
public final class ReadmeTest {
    private static final Pattern CALL = Pattern.compile("^\\| `(\\w+)\\(([\\w, ]*)\\)` \\| (.*) \\| (.*)\\|$");
    private static final Pattern TEST_FILE = Pattern.compile("`(test/[\\w/]+\\.java)`");
    private static final int[] NUMBERS = {Integer.MIN_VALUE, -2, -1, 0, 1, 2, 5, 6, 33, 97, 127, 10000};
    private static int wrong = 0;

    private static void fail(String what) {
        wrong++;
        System.out.println("README.md: " + what);
    }

    /** What stands in the fences of one kind, in order. */
    private static List<String> fences(String page, String kind) {
        List<String> found = new ArrayList<>();
        Matcher fence = Pattern.compile("(?s)\n```" + kind + "\n(.*?)```\n").matcher(page);
        while (fence.find()) {
            found.add(fence.group(1));
        }
        return found;
    }

    // ---- its program and its commands

    private static void copyAll(Path from, Path to) throws IOException {
        try (Stream<Path> files = Files.walk(from)) {
            for (Path file : files.filter(Files::isRegularFile).toList()) {
                Path copy = to.resolve(from.relativize(file).toString());
                Files.createDirectories(copy.getParent());
                Files.write(copy, Files.readAllBytes(file));
            }
        }
    }

    private static void deleteAll(Path folder) throws IOException {
        try (Stream<Path> files = Files.walk(folder)) {
            for (Path file : files.sorted(Comparator.reverseOrder()).toList()) {
                Files.delete(file);
            }
        }
    }

    private static String run(Path folder, String commands) throws IOException, InterruptedException {
        Process process = new ProcessBuilder("bash", "-e", "-c", commands)
            .directory(folder.toFile()).redirectErrorStream(true).start();
        String printed = new String(process.getInputStream().readAllBytes(), StandardCharsets.UTF_8);
        int code = process.waitFor();
        if (code != 0) {
            fail("ends with " + code + ":\n" + commands + printed);
        }
        return printed;
    }

    /** In a copy, since the commands leave files behind; .ci/run itself runs this test, so it is only looked for. */
    private static void followCommands(Path root, String page) throws IOException, InterruptedException {
        Path copy = Files.createTempDirectory("readme");
        Path project = copy.resolve("project");
        copyAll(root.resolve("src"), project.resolve("src"));
        copyAll(root.resolve("test"), project.resolve("test"));
        copyAll(root.resolve("../shared"), copy.resolve("shared"));
        Files.writeString(project.resolve("Coast.java"), fences(page, "java").get(0));
        List<String> printed = new ArrayList<>();
        for (String commands : fences(page, "sh")) {
            if (commands.strip().equals(".ci/run")) {
                if (!Files.isExecutable(root.resolve(".ci/run"))) {
                    fail(".ci/run can not be called");
                }
            } else {
                printed.add(run(project, commands));
            }
        }
        if (printed.size() != 3 || !fences(page, "text").equals(printed.subList(0, 1))) {
            fail("the program printed\n" + printed);
        }
        deleteAll(copy);
    }

    // ---- its tables

    private static void lookAtConstants(String page) throws IllegalAccessException {
        for (Field constant : KnotSigns.class.getFields()) {
            String name = "`" + constant.getName() + "`";
            int value = constant.getInt(null);
            if (!page.contains("| " + name + " | " + value + " |") && !page.contains(name + " (" + value + ")")) {
                fail(name + " is not told as " + value);
            }
        }
    }

    /** Objects in states of many kinds, so that each refusal there is can be met. */
    private static List<KnotSigns> coasts() {
        List<KnotSigns> found = new ArrayList<>();
        for (String text : new String[] {"", "a", "ab", "a?", "d", "abAB?", "c".repeat(40)}) {
            for (int scraps = 0; scraps <= 3; scraps++) {
                KnotSigns x = Edges.men("aba", "bab", "c");
                for (int i = 0; i < scraps; i++) {
                    Edges.scrap(x, "a");
                }
                Edges.pad(x, text);
                found.add(x);
            }
        }
        found.add(new KnotSigns());
        found.add(Edges.men("aba"));
        return found;
    }

    /** The answers below 0 of one call, with numbers of all kinds, each on an object of its own. */
    private static TreeSet<Integer> refusals(Method call) throws ReflectiveOperationException {
        TreeSet<Integer> found = new TreeSet<>();
        int ways = 1;
        for (int i = 0; i < call.getParameterCount(); i++) {
            ways *= NUMBERS.length;
        }
        List<KnotSigns> coasts = coasts();
        for (int way = 0; way < ways; way++) {
            if (way % 20 == 0) {
                coasts = coasts();
            }
            Object[] numbers = new Object[call.getParameterCount()];
            for (int i = 0, rest = way; i < numbers.length; i++, rest /= NUMBERS.length) {
                numbers[i] = NUMBERS[rest % NUMBERS.length];
            }
            for (KnotSigns x : coasts) {
                found.add(Math.min(0, (int) call.invoke(x, numbers)));
            }
        }
        found.remove(0);
        return found;
    }

    private static TreeSet<Integer> toldRefusals(String answers, String refusals) throws IllegalAccessException {
        TreeSet<Integer> found = new TreeSet<>();
        for (Field constant : KnotSigns.class.getFields()) {
            String told = constant.getName().equals("NONE") ? answers : refusals;
            if (told.contains("`" + constant.getName() + "`")) {
                found.add(constant.getInt(null));
            }
        }
        return found;
    }

    private static void lookAtCalls(List<String> lines) throws ReflectiveOperationException {
        TreeMap<String, Matcher> told = new TreeMap<>();
        for (String line : lines) {
            Matcher row = CALL.matcher(line);
            if (row.matches()) {
                told.put(row.group(1), row);
            }
        }
        for (Method call : KnotSigns.class.getDeclaredMethods()) {
            if (!Modifier.isPublic(call.getModifiers())) {
                continue;
            }
            Matcher row = told.remove(call.getName());
            if (row == null) {
                fail("does not tell of " + call.getName());
                continue;
            }
            long numbers = Arrays.stream(row.group(2).split(", ")).filter(name -> !name.isEmpty()).count();
            if (numbers != call.getParameterCount()) {
                fail(call.getName() + " does not take " + numbers + " numbers");
            }
            TreeSet<Integer> met = refusals(call);
            if (!met.equals(toldRefusals(row.group(3), row.group(4)))) {
                fail(call.getName() + " answered " + met + ": not what its row says");
            }
        }
        if (!told.isEmpty()) {
            fail("tells of calls that there are not: " + told.keySet());
        }
    }

    // ---- its names of files

    private static void lookAtFiles(Path root, String page) throws IOException {
        TreeSet<String> told = new TreeSet<>();
        Matcher name = TEST_FILE.matcher(page);
        while (name.find()) {
            told.add(name.group(1));
        }
        try (Stream<Path> files = Files.walk(root.resolve("test"))) {
            TreeSet<String> there = files.filter(Files::isRegularFile)
                .map(file -> root.relativize(file).toString()).collect(Collectors.toCollection(TreeSet::new));
            if (!told.equals(there)) {
                fail("names the tests " + told + ", there are " + there);
            }
        }
    }

    public static void main(String[] args) throws Exception {
        Path root = Path.of(args.length > 0 ? args[0] : ".").toAbsolutePath().normalize();
        String page = Files.readString(root.resolve("README.md"));
        followCommands(root, page);
        lookAtConstants(page);
        lookAtCalls(page.lines().toList());
        lookAtFiles(root, page);
        System.out.println("ReadmeTest: " + (wrong == 0 ? "all holds" : wrong + " do not hold"));
        if (wrong != 0) {
            System.exit(1);
        }
    }
}
