import java.lang.reflect.Constructor;
import java.lang.reflect.Field;
import java.lang.reflect.Method;
import java.lang.reflect.Modifier;
import java.nio.file.Files;
import java.nio.file.Path;
import java.util.ArrayList;
import java.util.Arrays;
import java.util.List;
import java.util.TreeSet;
import java.util.regex.Matcher;
import java.util.regex.Pattern;

/** The face of the document and those rules of LANGUAGE.md that can be seen from outside. args[0]: the project. */
public final class RulesTest {
    private static final String FACE = "at/1 book/1 clashes/1 comes/1 count/1 fault/0 feed/5 feeling/2 fits/1 force/2 "
            + "house/1 image/0 journey/0 law/1 length/1 look/1 loosest/1 lost/0 needs/1 oats/3 open/0 pairs/1 "
            + "rested/2 restore/0 season/4 side/1 span/6 stage/2 stall/1 stalls/0 stands/2 status/1 steady/4 swap/1 "
            + "team/2 thumb/3 told/1 undo/0 waits/0 weariest/1 willing/1 work/1 would/8";
    private static int wrong;

    public static void main(String[] args) throws Exception {
        face();
        classes();
        source(Files.readString(Path.of(args[0], "src/main/java/FeltHarness.java")));
        System.out.println("the face and the rules, " + wrong + " wrong");
        if (wrong != 0) {
            System.exit(1);
        }
    }

    private static void hold(boolean right, String what) {
        if (!right) {
            wrong++;
            System.out.println("against the rules: " + what);
        }
    }

    private static void face() {
        Class<?> c = FeltHarness.class;
        hold(Modifier.isPublic(c.getModifiers()) && Modifier.isFinal(c.getModifiers()), "a public final class");
        TreeSet<String> names = new TreeSet<>();
        TreeSet<String> open = new TreeSet<>();
        for (Method m : c.getDeclaredMethods()) {
            if (!Modifier.isPrivate(m.getModifiers())) {
                open.add(m.getName() + "/" + m.getParameterCount());
                names.add(m.getName());
                Class<?> due = m.getName().equals("steady") ? long.class : int.class;
                hold(m.getReturnType() == due && Modifier.isPublic(m.getModifiers()), m.toString());
                for (Class<?> p : m.getParameterTypes()) {
                    hold(p == int.class, m.toString());
                }
            }
        }
        hold(open.equals(new TreeSet<>(Arrays.asList(FACE.split(" ")))), "the face: " + open);
        hold(open.size() == 43, "43 methods: " + open.size());
        for (Class<?> n : all()) {
            for (Method m : n.getDeclaredMethods()) {
                hold(!Modifier.isPrivate(m.getModifiers()) || !names.contains(m.getName()), "private " + m);
                hold(m.getParameterCount() <= 7 || m.getName().equals("would"), "seven parameters: " + m);
            }
        }
        hold(c.getConstructors().length == 1 && c.getDeclaredConstructors().length == 1, "one constructor");
        for (Field f : c.getDeclaredFields()) {
            hold(Modifier.isPrivate(f.getModifiers()) || f.getName().equals("NONE"), "field " + f);
        }
    }

    private static List<Class<?>> all() {
        List<Class<?>> list = new ArrayList<>();
        list.add(FeltHarness.class);
        list.addAll(Arrays.asList(FeltHarness.class.getDeclaredClasses()));
        return list;
    }

    private static void classes() {
        hold(all().size() <= 12, "twelve classes");
        for (Class<?> n : all()) {
            int fields = 0;
            for (Field f : n.getDeclaredFields()) {
                boolean fixed = Modifier.isStatic(f.getModifiers());
                hold(!fixed || Modifier.isFinal(f.getModifiers()), "static and not final: " + f);
                fields += fixed ? 0 : 1;
            }
            hold(fields <= 20, "twenty fields: " + n);
            if (n != FeltHarness.class) {
                hold(Modifier.isStatic(n.getModifiers()) && Modifier.isPrivate(n.getModifiers()), "static: " + n);
            }
            for (Constructor<?> k : n.getDeclaredConstructors()) {
                hold(k.getParameterCount() <= 7, "seven parameters: " + k);
            }
        }
    }

    private static void source(String text) {
        String code = text.replaceAll("/\\*(?s:.*?)\\*/", "").replaceAll("//.*", "");
        String bare = code.replaceAll("\"[^\"\n]*\"", "\"\"");
        for (String word : List.of("try", "catch", "finally", "synchronized", "assert", "package", "Exact", "->",
                "::", "System.out", "System.currentTimeMillis", "System.nanoTime", "Random", "Thread", "hashCode")) {
            boolean sign = !Character.isLetter(word.charAt(0));
            hold(!Pattern.compile(sign ? Pattern.quote(word) : "\\b" + Pattern.quote(word) + "\\b").matcher(bare).find(),
                    "the word " + word);
        }
        Matcher imports = Pattern.compile("import ([^;]+);").matcher(bare);
        while (imports.find()) {
            hold(imports.group(1).equals("java.util.NoSuchElementException"), "import " + imports.group(1));
        }
        Matcher thrown = Pattern.compile("\\bthrow\\b([^;]*);").matcher(code);
        while (thrown.find()) {
            hold(thrown.group(1).matches(" new (IllegalArgument|NoSuchElement)Exception\\(\"[^\"]*\"\\)"), "throw" + thrown.group(1));
        }
        for (char sign : text.toCharArray()) {
            hold(sign < 128, "the sign " + (int) sign);
        }
        methods(bare);
    }

    /** A method stands from a line that opens it, two or one steps in, to the brace below its first letter. */
    private static void methods(String code) {
        String[] lines = code.split("\n");
        for (int i = 0; i < lines.length; i++) {
            Matcher head = Pattern.compile("^( {4}| {8})\\w[^=;]*\\) .*\\{$").matcher(lines[i]);
            if (head.find()) {
                int end = i;
                while (end < lines.length && !lines[end].equals(head.group(1) + "}")) {
                    end++;
                }
                hold(end - i <= 60, "sixty lines: " + lines[i].trim());
            }
        }
    }
}
