import java.io.IOException;
import java.lang.reflect.Constructor;
import java.lang.reflect.Method;
import java.lang.reflect.Modifier;
import java.nio.file.DirectoryStream;
import java.nio.file.Files;
import java.nio.file.Path;
import java.nio.file.StandardCopyOption;
import java.util.ArrayList;
import java.util.Collections;
import java.util.List;
import java.util.Set;
import java.util.TreeSet;
import java.util.regex.Matcher;
import java.util.regex.Pattern;

/** README.md: what it tells a reader to write and to run is so. Started in the project's directory. */
public final class ReadmeTest {
    private static final Check CHECK = new Check("ReadmeTest");
    private static final Path README = Path.of("README.md");
    private static final Path CLASS = Path.of("src/main/java/GlulxFloats.java");
    private static final int[] NOT_LOOKED_AT = {0, -1, 0x7FC00000, 0x80000000, 0x3F800000};

    private static List<String> lines;

    public static void main(String[] args) throws IOException, InterruptedException {
        lines = Files.readAllLines(README);
        List<List<String>> programs = blocks("java");
        List<List<String>> commands = blocks("sh");
        CHECK.due("programs in README.md", programs.size(), 1);
        CHECK.due("blocks of commands in README.md", commands.size(), 4);
        if (programs.size() == 1 && commands.size() == 4) {
            example(programs.get(0), commands.get(0));
            ciRun(commands.get(1));
            oneTest(commands.get(2), "ActTest");
            oneTest(commands.get(3), "GlulxFloatsRuns");
        }
        calls();
        constants();
        acts();
        tests();
        steps();
        testsOfTheProject();
        CHECK.end();
    }

    private static void same(String what, Object got, Object want) {
        CHECK.due(got.equals(want) ? what : what + ": " + got + ", and not " + want, got.equals(want) ? 1 : 0, 1);
    }

    private static List<List<String>> blocks(String language) {
        List<List<String>> all = new ArrayList<>();
        List<String> block = null;
        for (String line : lines) {
            if (block != null && line.equals("```")) {
                all.add(block);
                block = null;
            } else if (block != null) {
                block.add(line);
            } else if (line.equals("```" + language)) {
                block = new ArrayList<>();
            }
        }
        return all;
    }

    /** The cells of the table under a heading, without its first two lines. */
    private static List<String[]> table(String heading) {
        List<String[]> rows = new ArrayList<>();
        int from = lines.indexOf(heading);
        CHECK.due(heading + " is there", from >= 0 ? 1 : 0, 1);
        for (int i = from + 1; i < lines.size() && !lines.get(i).startsWith("#"); i++) {
            if (lines.get(i).startsWith("|")) {
                String[] cells = lines.get(i).substring(1).split("\\|");
                for (int k = 0; k < cells.length; k++) {
                    cells[k] = cells[k].trim();
                }
                rows.add(cells);
            }
        }
        return rows.size() < 2 ? rows : rows.subList(2, rows.size());
    }

    /** In a directory that has what README.md says there is, and nothing else. */
    private static void example(List<String> program, List<String> commands)
            throws IOException, InterruptedException {
        Path place = Path.of("build/readme");
        Files.createDirectories(place.resolve(CLASS).getParent());
        Files.copy(CLASS, place.resolve(CLASS), StandardCopyOption.REPLACE_EXISTING);
        Files.write(place.resolve("Example.java"), program);
        ProcessBuilder builder = new ProcessBuilder("bash", "-e", "-c", String.join("\n", commands));
        // What the machine itself may say at its start goes to the other stream, and is no answer.
        Process process = builder.directory(place.toFile()).redirectError(ProcessBuilder.Redirect.INHERIT).start();
        String told = new String(process.getInputStream().readAllBytes());
        same("the example ends well", process.waitFor(), 0);

        List<String> due = new ArrayList<>();
        for (String line : program) {
            if (line.contains("System.out.println(")) {
                int comment = line.indexOf(" // ");
                CHECK.due("its answer stands behind: " + line, comment >= 0 ? 1 : 0, 1);
                due.add(comment < 0 ? "" : line.substring(comment + 4));
            }
        }
        same("the example answers", List.of(told.split("\n")), due);
    }

    private static void ciRun(List<String> commands) {
        same("how all tests are run", commands, List.of(".ci/run"));
        CHECK.due(".ci/run can be run", Files.isExecutable(Path.of(".ci/run")) ? 1 : 0, 1);
    }

    private static void oneTest(List<String> commands, String name) throws IOException {
        String script = Files.readString(Path.of(".ci/run")).replace("\"", "").replace("$name", name);
        CHECK.due("commands for " + name, commands.size(), 2);
        for (String command : commands) {
            CHECK.due(".ci/run does: " + command, script.contains(command) ? 1 : 0, 1);
        }
    }

    private static void calls() {
        Set<String> due = new TreeSet<>();
        for (Constructor<?> constructor : GlulxFloats.class.getConstructors()) {
            due.add(signature("", constructor.getName(), constructor.getParameterTypes(), new Class<?>[0]));
        }
        for (Method method : GlulxFloats.class.getDeclaredMethods()) {
            if (Modifier.isPublic(method.getModifiers())) {
                due.add(signature(method.getReturnType().getSimpleName() + " ", method.getName(),
                    method.getParameterTypes(), method.getExceptionTypes()));
            }
        }
        Set<String> told = new TreeSet<>();
        for (String[] row : table("### The calls")) {
            Matcher call = Pattern.compile("`(.*)\\((.*)\\)`").matcher(row[0]);
            CHECK.due("a call: " + row[0], call.matches() ? 1 : 0, 1);
            String types = call.group(2).replaceAll("(\\w+) \\w+", "$1");
            Matcher exception = Pattern.compile("`(\\w+Exception)`").matcher(row.length < 3 ? "" : row[2]);
            told.add(call.group(1) + "(" + types + ")" + (exception.find() ? " " + exception.group(1) : ""));
        }
        same("the calls", told, due);
    }

    private static String signature(String answer, String name, Class<?>[] parameters, Class<?>[] exceptions) {
        List<String> types = new ArrayList<>();
        for (Class<?> type : parameters) {
            types.add(type.getSimpleName());
        }
        StringBuilder text = new StringBuilder(answer + name + "(" + String.join(", ", types) + ")");
        for (Class<?> type : exceptions) {
            text.append(' ').append(type.getSimpleName());
        }
        return text.toString();
    }

    private static void constants() {
        constant("OUTSIDE", GlulxFloats.OUTSIDE);
        constant("ROOM", GlulxFloats.ROOM);
        constant("NONE", GlulxFloats.NONE);
    }

    private static void constant(String name, int value) {
        String told = "`" + name + "` is " + value;
        CHECK.due(told + " stands there", String.join(" ", lines).matches(".*" + told + "[,.].*") ? 1 : 0, 1);
    }

    private static boolean isWhole(String number) {
        return number.matches("-?[0-9]+");
    }

    private static int word(String number) {
        return isWhole(number) ? Integer.parseInt(number) : Float.floatToRawIntBits(Float.parseFloat(number));
    }

    private static long wideWord(String number) {
        return isWhole(number) ? Long.parseLong(number) : Double.doubleToRawLongBits(Double.parseDouble(number));
    }

    /** What is asked, and behind it what is answered. */
    private static List<String> instance(String text) {
        Matcher matcher = Pattern.compile("`(.*)` is `(.*)`").matcher(text);
        CHECK.due("an example: " + text, matcher.matches() ? 1 : 0, 1);
        List<String> numbers = new ArrayList<>(List.of(matcher.group(1).split(", ")));
        numbers.add(matcher.group(2));
        return numbers;
    }

    private static void acts() {
        List<String[]> rows = table("### The ACTS");
        CHECK.due("ACTS told", rows.size(), 24);
        for (int act = 0; act < rows.size(); act++) {
            String[] row = rows.get(act);
            same("the ACT's number", row[0], Integer.toString(act));
            List<String> numbers = instance(row[2]);
            for (int other : NOT_LOOKED_AT) {
                int[] words = {other, other, other};
                long[] wideWords = {other, other, other};
                for (int i = 0; i < numbers.size() - 1; i++) {
                    words[i] = word(numbers.get(i));
                    wideWords[i] = wideWord(numbers.get(i));
                }
                String answer = numbers.get(numbers.size() - 1);
                String call = "ACT " + act + " " + row[2];
                CHECK.due(call, CHECK.any().act(act, words[0], words[1], words[2]), word(answer));
                // The next one and the STEP lie nearer among DOUBLES.
                if (act != 16 && act != 18) {
                    CHECK.due(call + " of DOUBLES",
                        CHECK.any().wide(act, wideWords[0], wideWords[1], wideWords[2]), wideWord(answer));
                }
            }
        }
    }

    private static void tests() {
        List<String[]> rows = table("### The TESTS");
        CHECK.due("TESTS told", rows.size(), 8);
        for (int test = 0; test < rows.size(); test++) {
            String[] row = rows.get(test);
            same("the TEST's number", row[0], Integer.toString(test));
            List<String> n = instance(row[2]);
            CHECK.due("numbers of TEST " + test, n.size(), 4);
            CHECK.due("TEST " + test + " " + row[2],
                CHECK.any().test(test, word(n.get(0)), word(n.get(1)), word(n.get(2))), word(n.get(3)));
            CHECK.due("TEST " + test + " " + row[2] + " of DOUBLES",
                CHECK.any().wideTest(test, wideWord(n.get(0)), wideWord(n.get(1)), wideWord(n.get(2))),
                word(n.get(3)));
        }
    }

    private static void steps() {
        Set<Integer> told = new TreeSet<>();
        for (String[] row : table("### The STEPS of a PROGRAM")) {
            int[] codes = range(row[0]);
            String[] limits = row[3].equals("x, y 0 to 15; z any")
                ? new String[] {row[2], "0 to 15", "0 to 15", "any"}
                : new String[] {row[2], row[3], row[3], row[3]};
            for (int code = codes[0]; code <= codes[1]; code++) {
                told.add(code);
                for (int which = 0; which < limits.length; which++) {
                    limit(code, which, range(limits[which]));
                }
            }
        }
        Set<Integer> taken = new TreeSet<>();
        for (int code = -100; code < 200; code++) {
            if (new GlulxFloats().step(code, 0, 0, 0, 0) != GlulxFloats.OUTSIDE) {
                taken.add(code);
            }
        }
        same("the codes", told, taken);
    }

    /** Its least and its greatest number. */
    private static int[] range(String text) {
        if (text.equals("any")) {
            return new int[] {Integer.MIN_VALUE, Integer.MAX_VALUE};
        }
        String[] ends = text.split(" to ");
        return new int[] {Integer.parseInt(ends[0]), Integer.parseInt(ends[ends.length - 1])};
    }

    private static void limit(int code, int which, int[] range) {
        int[] numbers = {Integer.MIN_VALUE, -1, 0, 15, 16, 39, 40, Integer.MAX_VALUE};
        for (int number : numbers) {
            int[] n = new int[4];
            n[which] = number;
            CHECK.due("step(" + code + ", " + n[0] + ", " + n[1] + ", " + n[2] + ", " + n[3] + ")",
                new GlulxFloats().step(code, n[0], n[1], n[2], n[3]),
                number >= range[0] && number <= range[1] ? 1 : GlulxFloats.OUTSIDE);
        }
    }

    private static void testsOfTheProject() throws IOException {
        List<String> there = new ArrayList<>();
        try (DirectoryStream<Path> files = Files.newDirectoryStream(Path.of("src/test/java"), "*Test.java")) {
            for (Path file : files) {
                there.add(file.getFileName().toString().replace(".java", ""));
            }
        }
        List<String> told = new ArrayList<>();
        for (String[] row : table("## Tests")) {
            Matcher name = Pattern.compile("`(\\w+Test)`").matcher(row[0]);
            while (name.find()) {
                told.add(name.group(1));
            }
        }
        Collections.sort(there);
        Collections.sort(told);
        same("the tests of the project", told, there);
    }
}
