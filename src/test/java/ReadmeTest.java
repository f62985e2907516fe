import java.io.IOException;
import java.lang.reflect.InvocationTargetException;
import java.lang.reflect.Method;
import java.nio.charset.StandardCharsets;
import java.nio.file.DirectoryStream;
import java.nio.file.Files;
import java.nio.file.Path;
import java.util.Arrays;
import java.util.TreeSet;
import java.util.regex.Matcher;
import java.util.regex.Pattern;

/** What README.md says is so: its runs of calls, its tables, its list of tests. args[0]: the project. */
public final class ReadmeTest {
    private static final Pattern CALL = Pattern.compile("x\\.(\\w+)\\(([^)]*)\\); +// (.*)");
    private static final Pattern ANSWER = Pattern.compile("(-?\\d+|\\w+Exception): .*");
    private static int held;
    private static int wrong;
    private static FeltHarness x;

    public static void main(String[] args) throws Exception {
        String readme = Files.readString(Path.of(args[0], "README.md"));
        runs(readme);
        lengths(readme);
        faults(readme);
        classes(readme);
        tests(readme, Path.of(args[0], "src/test/java"));
        System.out.println(held + " things that README.md says, " + wrong + " wrong");
        if (wrong != 0) {
            System.exit(1);
        }
    }

    private static void hold(boolean right, String what) {
        held++;
        if (!right) {
            wrong++;
            System.out.println("README.md: " + what);
        }
    }

    // runs of calls

    private static void runs(String readme) throws Exception {
        Matcher block = Pattern.compile("```java\n(.*?)```", Pattern.DOTALL).matcher(readme);
        int blocks = 0;
        while (block.find()) {
            blocks++;
            for (String line : block.group(1).split("\n")) {
                run(line);
            }
        }
        hold(blocks >= 4, "runs of calls: " + blocks);
    }

    private static void run(String line) throws Exception {
        if (line.equals("FeltHarness x = new FeltHarness();")) {
            x = new FeltHarness();
            return;
        }
        Matcher call = CALL.matcher(line);
        if (x == null || !call.matches()) {
            hold(false, "no call: " + line);
            return;
        }
        Object[] values = numbers(call.group(2));
        String got = answer(call.group(1), values);
        if (call.group(1).equals("feed")) {
            hold(!got.equals("-1") && call.group(3).equals('"' + text(values) + '"'), line + " is " + text(values));
            return;
        }
        Matcher due = ANSWER.matcher(call.group(3));
        hold(due.matches() && got.equals(due.group(1)), line + " answered " + got);
    }

    private static Object[] numbers(String told) {
        if (told.isEmpty()) {
            return new Object[0];
        }
        return Arrays.stream(told.split(", ")).map(Integer::decode).toArray();
    }

    private static String answer(String name, Object[] values) throws Exception {
        for (Method m : FeltHarness.class.getMethods()) {
            if (m.getDeclaringClass() == FeltHarness.class && m.getName().equals(name)
                    && m.getParameterCount() == values.length) {
                try {
                    return String.valueOf(m.invoke(x, values));
                } catch (InvocationTargetException e) {
                    return e.getCause().getClass().getSimpleName();
                }
            }
        }
        return "there is no such call";
    }

    /** The bytes of a feed up to those that fill it up. */
    private static String text(Object[] values) {
        StringBuilder b = new StringBuilder();
        for (Object v : values) {
            int number = (Integer) v;
            byte[] four = {(byte) (number >>> 24), (byte) (number >>> 16), (byte) (number >>> 8), (byte) number};
            b.append(new String(four, StandardCharsets.ISO_8859_1));
        }
        int end = b.indexOf("\0");
        return end < 0 ? b.toString() : b.substring(0, end);
    }

    // tables

    /** Of a full tape of blanks as many bytes can be read as the table says, and no more. */
    private static void lengths(String readme) throws Exception {
        Matcher row = Pattern.compile("\\| `(\\w+)\\(n\\)` \\|[^|]*\\| (\\d+) \\|").matcher(readme);
        TreeSet<String> names = new TreeSet<>();
        while (row.find()) {
            String name = row.group(1);
            int most = Integer.parseInt(row.group(2));
            names.add(name);
            x = new FeltHarness();
            for (int i = 0; i < 30; i++) {
                x.feed(0x20202020, 0x20202020, 0x20202020, 0x20202020, 0x20202020);
            }
            hold(answer(name, new Object[] {most + 1}).equals("IllegalArgumentException"), name + " of " + (most + 1));
            hold(x.count(1) == 600, "the tape stays behind " + name);
            // A law of blanks ends too early; the others may be empty.
            hold(answer(name, new Object[] {most}).equals(name.equals("law") ? "-9" : "0"), name + " of " + most);
            hold(x.count(1) == 0, "the tape is empty behind " + name);
            hold(x.fault() == (name.equals("law") ? most : FeltHarness.NONE), "fault behind " + name);
        }
        hold(names.equals(new TreeSet<>(Arrays.asList("house", "law", "work", "book"))), "texts: " + names);
    }

    private static void faults(String readme) {
        Matcher row = Pattern.compile("\\| (-\\d+) \\| (\\d) \\| ").matcher(readme);
        int fault = 0;
        while (row.find()) {
            fault++;
            hold(Integer.parseInt(row.group(2)) == fault && Integer.parseInt(row.group(1)) == fault - 10, row.group());
        }
        hold(fault == 3, "faults: " + fault);
    }

    private static void classes(String readme) {
        TreeSet<String> there = new TreeSet<>();
        there.add("FeltHarness");
        for (Class<?> c : FeltHarness.class.getDeclaredClasses()) {
            there.add(c.getSimpleName());
        }
        hold(named(readme, "\\| `([A-Z]\\w*)` \\|").equals(there), "classes: " + there);
    }

    private static void tests(String readme, Path tests) throws IOException {
        TreeSet<String> there = new TreeSet<>();
        try (DirectoryStream<Path> files = Files.newDirectoryStream(tests, "*Test.java")) {
            for (Path file : files) {
                there.add(file.getFileName().toString().replace(".java", ""));
            }
        }
        hold(named(readme, "`(\\w+Test)`").equals(there), "tests: " + there);
    }

    private static TreeSet<String> named(String readme, String how) {
        TreeSet<String> names = new TreeSet<>();
        Matcher m = Pattern.compile(how).matcher(readme);
        while (m.find()) {
            names.add(m.group(1));
        }
        return names;
    }
}
