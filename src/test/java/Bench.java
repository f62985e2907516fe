import java.io.IOException;
import java.nio.charset.StandardCharsets;
import java.nio.file.Files;
import java.nio.file.Path;
import java.util.Arrays;
import java.util.NoSuchElementException;

/** What the tests share: how FeltHarness is asked, and how an answer that is not the due one is told. */
abstract class Bench {
    interface Ask {
        long answer();
    }

    interface Call {
        long on(FeltHarness x);
    }

    interface Make {
        FeltHarness make();
    }

    enum Kind { HOUSE, LAW, WORK, BOOK }

    static final int NONE = FeltHarness.NONE;
    /** Two that pull alike, a long straight stage and a short one that turns. */
    static final String TWO = "feeling 20 0;feeling 20 9;stage 60 0;stage 1 9;bears 40;";
    /** Stands in a text ahead of the byte where the FAULT is due; the text is told without it. */
    private static final char MARK = '^';

    private static String document = "";
    private static String where = "";
    private static int asked;
    private static int wrong;

    // what is tested, and what came of it

    /** args[0]: the project; the document stands beside it. */
    static void openDocument(String[] args) throws IOException {
        document = folded(Files.readString(Path.of(args[0], "../shared/DOC.md")));
    }

    private static String folded(String text) {
        return text.replaceAll("\\s+", " ");
    }

    /** The words of the document that the answers below are held against; they must stand there. */
    static void says(String words) {
        where = words;
        asked++;
        if (!document.contains(folded(words))) {
            tellWrong("these words do not stand in DOC.md");
        }
    }

    static void promise(int number) {
        where = "promise " + number;
    }

    static void finish(String what) {
        System.out.println(asked + " answers " + what + ", " + wrong + " wrong");
        if (wrong != 0) {
            System.exit(1);
        }
    }

    private static void tellWrong(String what) {
        wrong++;
        System.out.println(where + ": " + what);
    }

    static void due(String what, long got, long want) {
        asked++;
        if (got != want) {
            tellWrong(what + " answered " + got + ", due is " + want);
        }
    }

    static void dueText(String what, String got, String want) {
        asked++;
        if (!got.equals(want)) {
            tellWrong(what + " is\n  " + got + "\ndue is\n  " + want);
        }
    }

    // calls that are refused, and calls that change nothing

    static void refused(FeltHarness x, String what, Class<?> due, Ask ask) {
        int kind = due == NoSuchElementException.class ? 0 : 1;
        int before = x.status(kind);
        int other = x.status(1 - kind);
        asked++;
        String got = "an answer";
        try {
            ask.answer();
        } catch (RuntimeException e) {
            got = e.getClass() == due ? "" : e.toString();
        }
        if (!got.isEmpty()) {
            tellWrong(what + " gave " + got + ", due is " + due.getSimpleName());
        }
        due(what + " counted", x.status(kind), before + 1);
        due(what + " counted elsewhere", x.status(1 - kind), other);
    }

    static void illegal(FeltHarness x, String what, Ask ask) {
        refused(x, what, IllegalArgumentException.class, ask);
    }

    static void missing(FeltHarness x, String what, Ask ask) {
        refused(x, what, NoSuchElementException.class, ask);
    }

    /** The call throws what is due, status counts it, and all else is as in a twin that was not asked. */
    static void refusedWhole(String what, Class<?> due, Make make, Call call) {
        FeltHarness x = make.make();
        refused(x, what, due, () -> call.on(x));
        dueText("all behind " + what, everything(x), everything(make.make()));
    }

    static void illegalWhole(String what, Make make, Call call) {
        refusedWhole(what, IllegalArgumentException.class, make, call);
    }

    static void missingWhole(String what, Make make, Call call) {
        refusedWhole(what, NoSuchElementException.class, make, call);
    }

    /** The call answers what is due, and all is as in a twin that was not asked. */
    static void changesNothing(String what, Make make, Call call, long want) {
        FeltHarness x = make.make();
        due(what, call.on(x), want);
        dueText("refusals behind " + what, refusals(x), refusals(make.make()));
        dueText("all behind " + what, everything(x), everything(make.make()));
    }

    private static String refusals(FeltHarness x) {
        return x.status(0) + " " + x.status(1);
    }

    /** All that can be asked but for refusals; the object is used up by it. */
    static String everything(FeltHarness x) {
        StringBuilder b = new StringBuilder();
        b.append("fault ").append(x.fault()).append(" tape ").append(x.count(1)).append(' ');
        b.append(state(x));
        int bytes = Math.min(150, x.count(1));
        b.append(" tape as law ").append(x.law(bytes)).append(' ').append(x.fault()).append(lawOf(x));
        return b.toString();
    }

    /** All but what belongs to the tape and to the latest text; the object is used up by it. */
    static String state(FeltHarness x) {
        StringBuilder b = new StringBuilder("told");
        for (int i = 0; i <= 12; i++) {
            b.append(' ').append(x.told(i));
        }
        int feelings = x.told(0);
        int stages = x.told(1);
        for (int f = 0; f < feelings; f++) {
            b.append(" feeling ").append(x.feeling(f, 0)).append(' ').append(x.feeling(f, 1)).append(' ')
                    .append(x.feeling(f, 5));
        }
        for (int s = 0; s < stages; s++) {
            b.append(" stage ").append(x.stage(s, 0)).append(' ').append(x.stage(s, 1)).append(' ').append(x.stage(s, 2));
        }
        b.append(lawOf(x)).append(" book ").append(x.fits(0)).append(' ').append(x.fits(1)).append(' ');
        b.append(x.look(0)).append(' ').append(x.look(1)).append(undone(x));
        for (int left = x.restore(); left != -1; left = x.restore()) {
            b.append("\n  image ").append(left).append(undone(x));
        }
        return b.toString();
    }

    private static String lawOf(FeltHarness x) {
        return " law " + x.would(20, 3, 5, 0, 2, 1, 3, 40) + ' ' + x.would(3, 0, 9, 40, 1, 0, 1, 7);
    }

    private static String undone(FeltHarness x) {
        StringBuilder b = new StringBuilder();
        do {
            b.append("\n  works ").append(x.count(2)).append(workedOn(x));
        } while (x.undo() != -1);
        return b.toString();
    }

    /** All that WORK changes. */
    static String workedOn(FeltHarness x) {
        StringBuilder b = new StringBuilder(" day ").append(x.told(2)).append(" behind ").append(x.told(3));
        b.append(" came ").append(x.told(7)).append(' ').append(x.told(8)).append(' ').append(x.told(9));
        int feelings = x.told(0);
        for (int f = 0; f < feelings; f++) {
            b.append(" at ").append(x.feeling(f, 2)).append(' ').append(x.feeling(f, 3)).append(' ').append(x.feeling(f, 4));
        }
        return b.toString();
    }

    /** An object of which nothing is as at first: a law, a book, works, an image, a fault, refusals, a tape. */
    static FeltHarness ready() {
        FeltHarness x = told("feeling 10 2;feeling 8 0;feeling 20 9;feeling 5 3;clash 0 2;"
                + "stage 30 3;stage 9 0;stage 60 9;bears 14;");
        law(x, "pull+tight-tired/2+place");
        work(x, "put 0 0;put 1 1;drive;");
        work(x, "rest;draw 1 7;drive;out 1;out 1;");
        x.image();
        work(x, "put 3 3;home;home;drive;out 0;drive;drive;put 2 0;drive;rest;");
        book(x, "1 0;");
        law(x, "1+");
        refused(x, "stage(9, 0)", NoSuchElementException.class, () -> x.stage(9, 0));
        refused(x, "told(99)", IllegalArgumentException.class, () -> x.told(99));
        refused(x, "told(-9)", IllegalArgumentException.class, () -> x.told(-9));
        return x;
    }

    static FeltHarness readyWithTape() {
        FeltHarness x = ready();
        feed(x, "7 + place * 2 - pull");
        return x;
    }

    // texts

    static int feed(FeltHarness x, String text) {
        byte[] bytes = text.getBytes(StandardCharsets.ISO_8859_1);
        byte[] padded = Arrays.copyOf(bytes, (bytes.length + 19) / 20 * 20);
        for (int i = 0; i < padded.length; i += 20) {
            int[] v = new int[5];
            for (int j = 0; j < 20; j++) {
                v[j / 4] = v[j / 4] << 8 | padded[i + j] & 255;
            }
            x.feed(v[0], v[1], v[2], v[3], v[4]);
        }
        return bytes.length;
    }

    static int tell(FeltHarness x, Kind kind, String text) {
        int n = feed(x, text);
        switch (kind) {
            case HOUSE: return x.house(n);
            case LAW: return x.law(n);
            case WORK: return x.work(n);
            default: return x.book(n);
        }
    }

    static int house(FeltHarness x, String text) {
        return tell(x, Kind.HOUSE, text);
    }

    static int law(FeltHarness x, String text) {
        return tell(x, Kind.LAW, text);
    }

    static int work(FeltHarness x, String text) {
        return tell(x, Kind.WORK, text);
    }

    static int book(FeltHarness x, String text) {
        return tell(x, Kind.BOOK, text);
    }

    static FeltHarness told(String house) {
        FeltHarness x = new FeltHarness();
        due("house " + house, house(x, house) >= 0 ? 1 : 0, 1);
        return x;
    }

    static FeltHarness told(String house, String law, String work) {
        FeltHarness x = told(house);
        due("law " + law, law.isEmpty() ? 1 : law(x, law), 1);
        due("work " + work, work.isEmpty() || work(x, work) >= 0 ? 1 : 0, 1);
        return x;
    }

    /** The text is taken: it answers what is due, and there is no FAULT. */
    static void taken(FeltHarness x, Kind kind, String text, int want) {
        due(kind + " " + text, tell(x, kind, text), want);
        due("fault of " + kind + " " + text, x.fault(), NONE);
        due("tape behind " + kind + " " + text, x.count(1), 0);
    }

    /** The text has the FAULT where the mark stands; the tape is empty then, and all else as it was. */
    static void faulty(Kind kind, int fault, String marked) {
        faulty(Bench::ready, kind, fault, marked);
    }

    static void faulty(Make make, Kind kind, int fault, String marked) {
        int place = marked.indexOf(MARK);
        String text = marked.substring(0, place) + marked.substring(place + 1);
        FeltHarness x = make.make();
        due(kind + " " + marked, tell(x, kind, text), fault - 10);
        due("fault of " + kind + " " + marked, x.fault(), place);
        due("tape behind " + kind + " " + marked, x.count(1), 0);
        dueText("refusals behind " + marked, refusals(x), refusals(make.make()));
        dueText("all behind " + kind + " " + marked, state(x), state(make.make()));
    }
}
