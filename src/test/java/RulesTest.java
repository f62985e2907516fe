import java.lang.reflect.Constructor;
import java.lang.reflect.Field;
import java.lang.reflect.Method;
import java.lang.reflect.Modifier;
import java.nio.file.Files;
import java.nio.file.Path;
import java.util.ArrayList;
import java.util.Arrays;
import java.util.List;
import java.util.TreeSet;
import java.util.regex.Matcher;
import java.util.regex.Pattern;

/** The face of the document and those rules of LANGUAGE.md that can be seen from outside. args[0]: the project. */
public final class RulesTest {
    private static int wrong;

    public static void main(String[] args) throws Exception {
        String text = Files.readString(Path.of(args[0], "src/main/java/FeltHarness.java"));
        String document = Files.readString(Path.of(args[0], "../shared/DOC.md"));
        face(signatures(document, text));
        promises(document);
        classes();
        source(text);
        System.out.println("the face and the rules, " + wrong + " wrong");
        if (wrong != 0) {
            System.exit(1);
        }
    }

    private static void hold(boolean right, String what) {
        if (!right) {
            wrong++;
            System.out.println("against the rules: " + what);
        }
    }

    /** What the document's face tells stands in the class word for word, the exceptions too; name/parameters of each. */
    private static TreeSet<String> signatures(String document, String text) {
        String folded = text.replaceAll("\\s+", " ");
        TreeSet<String> told = new TreeSet<>();
        Matcher m = Pattern.compile("public (?:int|long) (\\w+)\\((.*)\\).*;").matcher(faceOf(document));
        while (m.find()) {
            told.add(m.group(1) + "/" + (m.group(2).isEmpty() ? 0 : m.group(2).split(",").length));
            hold(folded.contains(m.group().replace(";", " {")), "told by the document: " + m.group());
        }
        hold(faceOf(document).contains("public static final int NONE = -1;") && FeltHarness.NONE == -1, "NONE");
        return told;
    }

    private static String faceOf(String document) {
        int from = document.indexOf("```java");
        int to = document.indexOf("```", from + 7);
        hold(from >= 0 && to > from, "the document tells a face");
        return from < 0 || to < 0 ? "" : document.substring(from, to);
    }

    /** Each promise tells a call as the face does, so the face has all of them and no other. */
    private static void promises(String document) {
        Matcher m = Pattern.compile("## Promise (\\d+): ([^\n]*)\n\n`([^`]*)`").matcher(document);
        int last = 0;
        while (m.find()) {
            last++;
            hold(Integer.parseInt(m.group(1)) == last, "promise " + m.group(1) + " at " + last);
            hold(faceOf(document).contains("public " + m.group(3) + ";"), "promise " + last + ": " + m.group(3));
        }
        hold(last == 44, "44 promises: " + last);
    }

    private static void face(TreeSet<String> told) {
        Class<?> c = FeltHarness.class;
        hold(Modifier.isPublic(c.getModifiers()) && Modifier.isFinal(c.getModifiers()), "a public final class");
        TreeSet<String> names = new TreeSet<>();
        TreeSet<String> open = new TreeSet<>();
        for (Method m : c.getDeclaredMethods()) {
            if (!Modifier.isPrivate(m.getModifiers())) {
                open.add(m.getName() + "/" + m.getParameterCount());
                names.add(m.getName());
                Class<?> due = m.getName().equals("steady") ? long.class : int.class;
                hold(m.getReturnType() == due && Modifier.isPublic(m.getModifiers()), m.toString());
                for (Class<?> p : m.getParameterTypes()) {
                    hold(p == int.class, m.toString());
                }
            }
        }
        hold(open.equals(told), "the face: " + open);
        hold(open.size() == 43, "43 methods: " + open.size());
        for (Class<?> n : all()) {
            for (Method m : n.getDeclaredMethods()) {
                hold(!Modifier.isPrivate(m.getModifiers()) || !names.contains(m.getName()), "private " + m);
                hold(m.getParameterCount() <= 7 || m.getName().equals("would"), "seven parameters: " + m);
            }
        }
        hold(c.getConstructors().length == 1 && c.getDeclaredConstructors().length == 1, "one constructor");
        for (Field f : c.getDeclaredFields()) {
            hold(Modifier.isPrivate(f.getModifiers()) || f.getName().equals("NONE"), "field " + f);
        }
    }

    private static List<Class<?>> all() {
        List<Class<?>> list = new ArrayList<>();
        list.add(FeltHarness.class);
        list.addAll(Arrays.asList(FeltHarness.class.getDeclaredClasses()));
        return list;
    }

    private static void classes() {
        hold(all().size() <= 12, "twelve classes");
        for (Class<?> n : all()) {
            int fields = 0;
            for (Field f : n.getDeclaredFields()) {
                boolean fixed = Modifier.isStatic(f.getModifiers());
                hold(!fixed || Modifier.isFinal(f.getModifiers()), "static and not final: " + f);
                fields += fixed ? 0 : 1;
            }
            hold(fields <= 20, "twenty fields: " + n);
            if (n != FeltHarness.class) {
                hold(Modifier.isStatic(n.getModifiers()) && Modifier.isPrivate(n.getModifiers()), "static: " + n);
            }
            for (Constructor<?> k : n.getDeclaredConstructors()) {
                hold(k.getParameterCount() <= 7, "seven parameters: " + k);
            }
        }
    }

    private static void source(String text) {
        String code = text.replaceAll("/\\*(?s:.*?)\\*/", "").replaceAll("//.*", "");
        String bare = code.replaceAll("\"[^\"\n]*\"", "\"\"");
        for (String word : List.of("try", "catch", "finally", "synchronized", "assert", "package", "Exact", "->",
                "::", "System.out", "System.currentTimeMillis", "System.nanoTime", "Random", "Thread", "hashCode")) {
            boolean sign = !Character.isLetter(word.charAt(0));
            hold(!Pattern.compile(sign ? Pattern.quote(word) : "\\b" + Pattern.quote(word) + "\\b").matcher(bare).find(),
                    "the word " + word);
        }
        Matcher imports = Pattern.compile("import ([^;]+);").matcher(bare);
        while (imports.find()) {
            hold(imports.group(1).equals("java.util.NoSuchElementException"), "import " + imports.group(1));
        }
        Matcher thrown = Pattern.compile("\\bthrow\\b([^;]*);").matcher(code);
        while (thrown.find()) {
            hold(thrown.group(1).matches(" new (IllegalArgument|NoSuchElement)Exception\\(\"[^\"]*\"\\)"), "throw" + thrown.group(1));
        }
        for (char sign : text.toCharArray()) {
            hold(sign < 128, "the sign " + (int) sign);
        }
        library(bare);
        methods(bare);
    }

    /** Of the library only what LANGUAGE.md lists; rows and parts are made by the constructor, and no call makes any. */
    private static void library(String bare) {
        Matcher m = Pattern.compile("\\b(Math|Integer|Long|System|Arrays|String|List)\\.(\\w+)").matcher(bare);
        List<String> listed = List.of("Math.max", "Math.min", "Math.abs", "Integer.bitCount", "System.arraycopy");
        while (m.find()) {
            hold(listed.contains(m.group()), "the library's " + m.group());
        }
        for (String line : bare.split("\n")) {
            if (line.matches(".*\\bnew\\b.*")) {
                hold(line.matches(" +private final \\S+ \\w+ = new .*;| +throw new \\w+Exception\\(\"\"\\);"), "made by a call: " + line.trim());
            }
        }
    }

    /** A method stands from a line that opens it, two or one steps in, to the brace below its first letter. */
    private static void methods(String code) {
        String[] lines = code.split("\n");
        for (int i = 0; i < lines.length; i++) {
            Matcher head = Pattern.compile("^( {4}| {8})\\w[^=;]*\\) .*\\{$").matcher(lines[i]);
            if (head.find()) {
                int end = i;
                while (end < lines.length && !lines[end].equals(head.group(1) + "}")) {
                    end++;
                }
                hold(end - i <= 60, "sixty lines: " + lines[i].trim());
            }
        }
    }
}
