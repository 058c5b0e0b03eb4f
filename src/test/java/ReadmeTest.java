import java.io.IOException;
import java.lang.reflect.InvocationTargetException;
import java.lang.reflect.Method;
import java.net.URL;
import java.net.URLClassLoader;
import java.nio.file.Files;
import java.nio.file.Path;
import java.util.ArrayList;
import java.util.Comparator;
import java.util.List;
import java.util.function.Predicate;
import java.util.function.Supplier;
import java.util.regex.MatchResult;
import java.util.regex.Matcher;
import java.util.regex.Pattern;
import java.util.stream.Collectors;
import java.util.stream.Stream;
import javax.tools.ToolProvider;

/** README.md: what it says there must be so. Its tables are read, its examples compiled and run. */
public final class ReadmeTest {
    private static final Check CHECK = new Check("ReadmeTest");
    private static final Path TESTS = Path.of("src/test/java");
    private static final int BAD = 0, NO = 1, FULL = 2;
    private static final String[] REASONS = {"BAD", "NO", "FULL"};
    private static final Pattern NUMBER =
        Pattern.compile("(\\w+)(: one there is|: another one| (-?\\d+) (?:on|\\.\\. (\\d+)))");

    /** A number of a call: the least and the greatest that are right. */
    private record Given(String name, int least, int most, boolean isLump) {
    }

    /** A row of a table of calls. */
    private record Call(String name, List<Given> numbers, String refused) {
        boolean isRefusedAs(int reason) {
            return Pattern.compile("\\b" + REASONS[reason] + "\\b").matcher(refused).find();
        }

        long badAnswer() {
            Matcher m = Pattern.compile("BAD: (-\\d+)").matcher(refused);
            return m.find() ? Long.parseLong(m.group(1)) : CoalWood.BAD;
        }

        int[] leastNumbers() {
            return numbers.stream().mapToInt(Given::least).toArray();
        }
    }

    public static void main(String[] args) throws IOException, ReflectiveOperationException {
        String page = Files.readString(Path.of("README.md"));
        String document = Files.readString(Path.of("../shared/DOC.md"));
        List<Call> calls = calls(page);
        face(calls, document);
        reasons(calls, document);
        answers(calls, page);
        for (Call call : calls) {
            bounds(call);
            refusals(call);
        }
        kinds(page);
        examples(page);
        tests(page);
        CHECK.end();
    }

    private static List<MatchResult> all(String pattern, String text) {
        return Pattern.compile(pattern, Pattern.MULTILINE).matcher(text).results().collect(Collectors.toList());
    }

    private static List<Call> calls(String page) {
        List<Call> calls = new ArrayList<>();
        for (MatchResult row : all("^\\| `(\\w+)\\((.*)\\)` \\|([^|]*)\\|([^|]*)\\|([^|]*)\\|$", page)) {
            List<Given> numbers = numbers(row.group(3).trim());
            String names = numbers.stream().map(Given::name).collect(Collectors.joining(", "));
            CHECK.that(row.group(1) + " of " + row.group(2) + " tells of " + names, names.equals(row.group(2)));
            CHECK.that("no answer of " + row.group(1), !row.group(4).isBlank());
            calls.add(new Call(row.group(1), numbers, row.group(5)));
        }
        return calls;
    }

    /** As they are in a pit of six lumps, another one than lump 0 being 1 on; what binds two together is left out. */
    private static List<Given> numbers(String cell) {
        List<Given> numbers = new ArrayList<>();
        for (String one : cell.replaceAll(";.*", "").split(", ")) {
            Matcher m = NUMBER.matcher(one);
            if (m.matches() && m.group(3) == null) {
                numbers.add(new Given(m.group(1), one.endsWith("another one") ? 1 : 0, 5, true));
            } else if (m.matches()) {
                int most = m.group(4) == null ? Integer.MAX_VALUE : Integer.parseInt(m.group(4));
                numbers.add(new Given(m.group(1), Integer.parseInt(m.group(3)), most, false));
            } else {
                CHECK.that("not understood: " + one, one.isEmpty());
            }
        }
        return numbers;
    }

    /** Every call of the document, in its order, with its numbers' names. */
    private static void face(List<Call> calls, String document) {
        List<String> due = new ArrayList<>();
        for (MatchResult m : all("^    public (?:int|long) (\\w+\\(.*\\));$", document)) {
            due.add(m.group(1).replaceAll("int ", ""));
        }
        List<String> are = new ArrayList<>();
        for (Call call : calls) {
            are.add(call.name + call.numbers.stream().map(Given::name).collect(Collectors.joining(", ", "(", ")")));
        }
        CHECK.that("calls are " + are + ", due are " + due, are.equals(due) && due.size() == 35);
    }

    /** Each call is refused as its promise says, and as full by the same number. */
    private static void reasons(List<Call> calls, String document) {
        for (Call call : calls) {
            List<MatchResult> found = all("^## Promise \\d+: " + call.name + "\n\n(.*)$", document);
            CHECK.due("promises of " + call.name, found.size(), 1);
            String promise = found.isEmpty() ? "" : found.get(0).group(1);
            CHECK.that(call.name + " as BAD", call.isRefusedAs(BAD) == promise.contains("BAD"));
            CHECK.that(call.name + " as NO", call.isRefusedAs(NO) == promise.contains("NO:"));
            CHECK.that(call.name + " as FULL", call.isRefusedAs(FULL) == promise.contains("FULL:"));
            Matcher full = Pattern.compile("FULL: (\\d+)").matcher(promise);
            CHECK.that(call.name + " is full by another number", !full.find() || call.refused.contains(full.group()));
        }
    }

    /** The table of answers names just the calls whose rows say so. */
    private static void answers(List<Call> calls, String page) {
        named(page, "-3 `NO`", calls, call -> call.isRefusedAs(NO));
        named(page, "-4 `FULL`", calls, call -> call.isRefusedAs(FULL));
        named(page, "-10", calls, call -> call.badAnswer() == -10);
        named(page, "-1", calls, call -> call.badAnswer() == -1);
    }

    private static void named(String page, String answer, List<Call> calls, Predicate<Call> due) {
        String names = calls.stream().filter(due).map(call -> "`" + call.name + "`").collect(Collectors.joining(", "));
        String row = "\n| " + answer + " | " + names + " |";
        CHECK.that("no row " + row, page.contains(row));
    }

    private static long ask(CoalWood x, Call call, int[] numbers) {
        Object[] given = new Object[numbers.length];
        Class<?>[] types = new Class<?>[numbers.length];
        for (int k = 0; k < numbers.length; k++) {
            given[k] = numbers[k];
            types[k] = int.class;
        }
        try {
            return ((Number) CoalWood.class.getMethod(call.name, types).invoke(x, given)).longValue();
        } catch (NoSuchMethodException | IllegalAccessException | InvocationTargetException e) {
            throw new AssertionError(call.name, e);
        }
    }

    /** Each number alone, the others being the least: those told are right, those beside them (or a lump twice) BAD. */
    private static void bounds(Call call) {
        for (int k = 0; k < call.numbers.size(); k++) {
            Given number = call.numbers.get(k);
            boolean endless = number.most == Integer.MAX_VALUE;
            bound(call, k, number.least, false);
            bound(call, k, number.most, false);
            bound(call, k, number.least - 1, true);
            bound(call, k, endless ? Integer.MIN_VALUE : number.most + 1, true);
        }
    }

    private static void bound(Call call, int k, int number, boolean bad) {
        CoalWood x = Pits.middle();
        int[] numbers = call.leastNumbers();
        numbers[k] = number;
        long answer = ask(x, call, numbers);
        String name = call.name + ", number " + k + " being " + number;
        CHECK.due(name + ": refused as BAD", x.status(BAD), bad ? 1 : 0);
        CHECK.that(name + " answered " + answer, !bad || answer == call.badAnswer());
    }

    /** Refused as NO, as FULL in some state, if the row says so, else in none; with right numbers never as BAD. */
    private static void refusals(Call call) {
        List<Supplier<CoalWood>> states = List.of(CoalWood::new, Pits::middle, Pits::brimful);
        int[] refused = new int[3];
        for (Supplier<CoalWood> state : states) {
            CoalWood x = state.get();
            ask(x, call, call.leastNumbers());
            for (int reason = 0; reason < 3; reason++) {
                refused[reason] += x.status(reason);
            }
        }
        boolean ofALump = call.numbers.stream().anyMatch(Given::isLump);
        CHECK.due(call.name + " as BAD, without lumps alone", refused[BAD], ofALump ? 1 : 0);
        CHECK.that(call.name + " as NO", refused[NO] > 0 == call.isRefusedAs(NO));
        CHECK.that(call.name + " as FULL", refused[FULL] > 0 == call.isRefusedAs(FULL));
    }

    private static void kinds(String page) {
        List<MatchResult> rows = all("^\\| (\\d) \\| \\w+ \\| ([^|]+) \\| `([.0-9]+)` \\|$", page);
        CHECK.due("kinds", rows.size(), 6);
        for (int kind = 0; kind < rows.size(); kind++) {
            MatchResult row = rows.get(kind);
            CHECK.due("kind", Integer.parseInt(row.group(1)), kind);
            CoalWood x = new CoalWood();
            x.lump(kind, 0, 3);
            String own = row.group(3);
            for (int t = 0; t <= 20; t++) {
                boolean shows = t < own.length() && own.charAt(t) != '.';
                CHECK.due("kind " + kind + " in step " + t, x.shows(0, t), shows ? own.charAt(t) - '0' : CoalWood.NONE);
            }
            for (int n = 1; n <= 6; n++) {
                x.pit();
                x.lump(kind, 0, n);
                CHECK.due("kind " + kind + " of size " + n, x.of(0, 4), steps(row.group(2), n));
            }
        }
    }

    private static int steps(String told, int n) {
        switch (told) {
            case "n": return n;
            case "half of n, rounded up": return (n + 1) / 2;
            case "twice n": return 2 * n;
            case "n and 1": return n + 1;
            default: return -1;
        }
    }

    /** Every call of an example that stands at a line's beginning has its answer behind it. */
    private static void examples(String page) throws IOException, ReflectiveOperationException {
        StringBuilder source = new StringBuilder("final class ReadmeExamples {\n");
        List<String> names = new ArrayList<>();
        List<Long> due = new ArrayList<>();
        List<MatchResult> blocks = all("^```java\n((?:.*\n)*?)```$", page);
        CHECK.due("examples", blocks.size(), 6);
        for (int k = 0; k < blocks.size(); k++) {
            source.append("static void run").append(k).append("(java.util.List<Long> are) {\n");
            for (String line : blocks.get(k).group(1).split("\n")) {
                Matcher call = Pattern.compile("(wood\\.\\w+\\(.*\\)); +// (-?\\d+)(: .*)?").matcher(line);
                boolean asks = call.matches();
                CHECK.that("no answer: " + line, asks || !line.startsWith("wood."));
                source.append(asks ? "are.add((long) " + call.group(1) + ");" : line).append("\n");
                if (asks) {
                    names.add("example " + k + ": " + call.group(1));
                    due.add(Long.parseLong(call.group(2)));
                }
            }
            source.append("}\n");
        }
        List<Long> are = run(source.append("}\n").toString(), blocks.size());
        CHECK.due("answers", are.size(), due.size());
        for (int k = 0; k < are.size() && k < due.size(); k++) {
            CHECK.due(names.get(k), are.get(k), due.get(k));
        }
    }

    private static List<Long> run(String source, int blocks) throws IOException, ReflectiveOperationException {
        List<Long> are = new ArrayList<>();
        Path folder = Files.createTempDirectory("readme");
        Path file = Files.writeString(folder.resolve("ReadmeExamples.java"), source);
        String[] words = {"-d", folder.toString(), "-cp", System.getProperty("java.class.path"), file.toString()};
        boolean compiled = ToolProvider.getSystemJavaCompiler().run(null, null, null, words) == 0;
        CHECK.that("the examples do not compile", compiled);
        try (URLClassLoader loader = new URLClassLoader(new URL[] {folder.toUri().toURL()})) {
            for (int k = 0; k < blocks && compiled; k++) {
                Method method = loader.loadClass("ReadmeExamples").getDeclaredMethod("run" + k, List.class);
                method.setAccessible(true);
                method.invoke(null, are);
            }
        }
        try (Stream<Path> made = Files.walk(folder)) {
            made.sorted(Comparator.reverseOrder()).forEach(path -> path.toFile().delete());
        }
        return are;
    }

    /** Every test there is stands in the table, and no other. */
    private static void tests(String page) throws IOException {
        List<String> told = new ArrayList<>();
        for (MatchResult row : all("^\\| (\\w+Test(?:, \\w+Test)*) \\|", page)) {
            told.addAll(List.of(row.group(1).split(", ")));
        }
        try (Stream<Path> files = Files.list(TESTS)) {
            List<String> there = files.map(file -> file.getFileName().toString().replace(".java", ""))
                .filter(name -> name.endsWith("Test")).sorted().collect(Collectors.toList());
            told.sort(null);
            CHECK.that("tests told are " + told + ", there are " + there, told.equals(there));
        }
        for (MatchResult path : all("`((?:src|\\.\\./shared)/[\\w./]+\\.\\w+)`", page)) {
            CHECK.that("there is no " + path.group(1), Files.exists(Path.of(path.group(1))));
        }
        for (MatchResult helper : all("`(SlowWood|Twins|Pits|Evenings)`", page)) {
            CHECK.that("there is no " + helper.group(1), Files.exists(TESTS.resolve(helper.group(1) + ".java")));
        }
    }
}
