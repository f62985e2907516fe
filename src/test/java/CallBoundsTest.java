import java.util.Arrays;
import java.util.NoSuchElementException;

/** The bounds that the promises 1 to 44 name: what each call refuses, what it answers where there is none, what is full. */
public final class CallBoundsTest extends Bench {
    private interface Face {
        long on(FeltHarness x, int[] v);
    }

    private static final String EIGHT = "feeling 9 0;".repeat(8);

    public static void main(String[] args) throws Exception {
        openDocument(args);
        newObject();
        feed();
        house();
        textLengths();
        law();
        work();
        sixteenWorks();
        book();
        fault();
        undo();
        told();
        told11();
        argumentsOfOne();
        argumentsOfMany();
        wouldOfEach();
        argumentsOfSeasons();
        noSuchGoesFirst();
        noneAtAll();
        allThereCanBe();
        comesToNeeds();
        aheadOfDrives();
        stallsAndSwap();
        fitsAndLook();
        thumb();
        stageAnswers();
        feelingAnswers();
        oats();
        span();
        images();
        restore();
        statusAndCount();
        finish("by the bounds of the calls");
    }

    // how arguments are tried

    /**
     * Each argument from its least to its most is taken; just beyond, and far off, it is refused, and nothing else
     * has changed. kinds has a sign for each argument: n NoSuchElementException, i IllegalArgumentException, - any is right.
     */
    private static void bounds(String name, String kinds, int[] least, int[] most, Make make, Face face) {
        for (int i = 0; i < least.length; i++) {
            for (int value : new int[] {least[i], most[i]}) {
                takenAt(name, least, i, value, make, face);
                takenAt(name, most, i, value, make, face);
            }
            if (kinds.charAt(i) == '-') {
                continue;
            }
            Class<?> due = kinds.charAt(i) == 'n' ? NoSuchElementException.class : IllegalArgumentException.class;
            for (int value : new int[] {least[i] - 1, Integer.MIN_VALUE, most[i] + 1, Integer.MAX_VALUE}) {
                int[] low = with(least, i, value);
                refusedWhole(name + Arrays.toString(low), due, make, x -> face.on(x, low));
                int[] high = with(most, i, value);
                refusedWhole(name + Arrays.toString(high), due, make, x -> face.on(x, high));
            }
        }
    }

    private static int[] with(int[] values, int i, int value) {
        int[] copy = values.clone();
        copy[i] = value;
        return copy;
    }

    private static void takenAt(String name, int[] others, int i, int value, Make make, Face face) {
        int[] v = with(others, i, value);
        FeltHarness x = make.make();
        int before = x.status(0) + x.status(1);
        String got = "";
        try {
            face.on(x, v);
        } catch (RuntimeException e) {
            got = e.toString();
        }
        dueText(name + Arrays.toString(v) + " throws", got, "");
        due(name + Arrays.toString(v) + " is not refused", x.status(0) + x.status(1), before);
    }

    private static void bounds(String name, String kinds, int[] least, int[] most, Face face) {
        bounds(name, kinds, least, most, Bench::readyWithTape, face);
    }

    private static void oneBound(String name, String kind, int least, int most, Face face) {
        bounds(name, kind, new int[] {least}, new int[] {most}, face);
    }

    private static FeltHarness withTape(int bytes) {
        FeltHarness x = ready();
        feed(x, " ".repeat(bytes));
        due("bytes", x.count(1), bytes);
        return x;
    }

    // promises 1 to 8

    private static void newObject() {
        says("`FeltHarness()`: A HOUSE without CLAUSES.");
        FeltHarness x = ready();
        due("house without clauses", house(x, ""), 0);
        dueText("a new object", everything(new FeltHarness()), everything(x));
        FeltHarness y = new FeltHarness();
        due("refusals", y.status(0) + y.status(1), 0);
        due("images, tape, works", y.count(0) + y.count(1) + y.count(2), 0);
        due("bears", y.told(12), 12);
    }

    private static void feed() {
        says("Twenty bytes come on the TAPE, of each number the highest first: how many there are; NONE, doing nothing, "
                + "if there would be more than 600.");
        FeltHarness x = ready();
        for (int bytes = 20; bytes <= 600; bytes += 20) {
            due("feed", x.feed(-1, -1, -1, -1, -1), bytes);
        }
        due("feed beyond 600", x.feed(0, 0, 0, 0, 0), NONE);
        due("bytes", x.count(1), 600);
        changesNothing("feed on a full tape", () -> withTape(600), y -> y.feed(0, 0, 0, 0, 0), NONE);
        due("the last that is taken", withTape(580).feed(0, 0, 0, 0, 0), 600);
        FeltHarness z = new FeltHarness();
        int[] words = {0x20203132, 0x2b332020, 0x20202020, 0x20202020, 0x2020202b};
        due("feed", z.feed(words[0], words[1], words[2], words[3], words[4]), 20);
        due("the first 19 bytes", z.law(19), 1);
        due("12+3", z.would(1, 0, 0, 0, 0, 0, 0, 0), 15);
        z.feed(words[0], words[1], words[2], words[3], words[4]);
        due("all 20", z.law(20), -9);
        due("fault", z.fault(), 20);
        int[] signs = {0x80, 0xff, 0x00, 0x7f};
        for (int sign : signs) {
            for (int at = 0; at < 20; at++) {
                int[] v = {0x20202020, 0x20202020, 0x20202020, 0x20202020, 0x20202020};
                int shift = 24 - 8 * (at % 4);
                v[at / 4] = v[at / 4] & ~(255 << shift) | sign << shift;
                z.feed(v[0], v[1], v[2], v[3], v[4]);
                due("house with " + sign + " at " + at, z.house(20), -9);
                due("fault", z.fault(), at);
            }
        }
    }

    private static void house() {
        says("The first n bytes of the TAPE (empty then) are the HOUSE (DAY 0; no LAW, BOOK, IMAGES, nothing to undo): "
                + "how many FEELINGS; or the FAULT less 10 (all stays).");
        FeltHarness x = ready();
        due("house", house(x, TWO), 2);
        dueText("all behind a house", everything(x), everything(told(TWO)));
        FeltHarness y = ready();
        feed(y, "bears 3;bears 4;bears 5;");
        due("the first 16 bytes of 40", y.house(16), 0);
        due("bears", y.told(12), 4);
        due("the tape is empty then", y.count(1), 0);
        due("nothing is left on it", y.feed(0, 0, 0, 0, 0), 20);
        FeltHarness z = ready();
        feed(z, "bears 3;bears 99;");
        due("fault 2", z.house(17), -8);
        due("the tape is empty then, too", z.count(1), 0);
        faulty(Kind.HOUSE, 1, "feeling 1 0^");
        faulty(Kind.HOUSE, 2, "feeling ^21 0;");
        faulty(Kind.HOUSE, 3, EIGHT + "^feeling 9 0;");
        says("IllegalArgumentException: n is not 0 to the TAPE's bytes (it stays).");
        oneBound("house", "i", 0, 20, (t, v) -> t.house(v[0]));
        bounds("house", "i", new int[] {0}, new int[] {600}, () -> withTape(600), (t, v) -> t.house(v[0]));
        bounds("house", "i", new int[] {0}, new int[] {0}, Bench::ready, (t, v) -> t.house(v[0]));
        bounds("house", "i", new int[] {0}, new int[] {0}, FeltHarness::new, (t, v) -> t.house(v[0]));
    }

    private static void textLengths() {
        for (int bytes : new int[] {0, 20, 40, 140, 160, 600}) {
            Make make = () -> withTape(bytes);
            int[] none = {0};
            says("Likewise the LAW (n to 150): 1.");
            bounds("law", "i", none, new int[] {Math.min(150, bytes)}, make, (t, v) -> t.law(v[0]));
            says("Likewise WORK (n to 150), which is done");
            bounds("work", "i", none, new int[] {Math.min(150, bytes)}, make, (t, v) -> t.work(v[0]));
            says("Likewise the BOOK (n to 60): how many lines.");
            bounds("book", "i", none, new int[] {Math.min(60, bytes)}, make, (t, v) -> t.book(v[0]));
        }
    }

    private static void law() {
        says("Likewise the LAW (n to 150): 1.");
        FeltHarness x = readyWithTape();
        due("the first byte", x.law(1), 1);
        due("the value", x.would(1, 0, 0, 0, 3, 0, 0, 0), 7);
        due("the tape is empty then", x.count(1), 0);
        FeltHarness same = ready();
        law(same, "pull+tight-tired/2+place");
        FeltHarness twin = ready();
        twin.law(0);
        dueText("nothing but the law", state(same), state(twin));
        faulty(Kind.LAW, 1, "^");
        faulty(Kind.LAW, 2, "^1000");
        faulty(Kind.LAW, 3, "((((((^(");
        due("a law without a house", law(new FeltHarness(), "9"), 1);
    }

    private static void work() {
        says("how many STEPS were done (agains not counted, nor REFUSED ones); or the FAULT less 10 (none is)");
        FeltHarness x = told(TWO);
        due("no steps", work(x, ""), 0);
        due("agains are not counted", work(x, "again 2[again 2[rest;];];"), 4);
        due("refused ones are not counted", work(x, "home;rest;home;"), 1);
        due("the tape is empty then", x.count(1), 0);
        FeltHarness y = told(TWO);
        feed(y, "rest;rest;rest;");
        due("the first 10 bytes", y.work(10), 2);
        due("the tape is empty then", y.count(1), 0);
        faulty(Kind.WORK, 1, "rest;out 2;draw 1 1^");
        faulty(Kind.WORK, 2, "rest;out 2;out ^4;");
        faulty(Kind.WORK, 3, "rest;" + "again 1[".repeat(6) + "^again 1[");
    }

    private static FeltHarness withWorks(int works) {
        FeltHarness x = told(TWO, "pull+tired", "put 0 0;drive;");
        x.image();
        book(x, "1 0;");
        while (x.count(2) < works) {
            work(x, "rest;home;home;");
        }
        due("works", x.count(2), works);
        return x;
    }

    private static FeltHarness fullWithTape(String text) {
        FeltHarness x = withWorks(16);
        law(x, "1+");
        feed(x, text);
        return x;
    }

    private static void sixteenWorks() {
        says("-20 ahead of that (nothing is read, there is no FAULT, the TAPE is empty then): 16 WORKS are there that were not undone.");
        FeltHarness x = withWorks(15);
        due("a 16th", work(x, "rest;"), 1);
        due("works", x.count(2), 16);
        for (String text : new String[] {"rest;", "rest;xyz", "", "out 9;"}) {
            FeltHarness y = fullWithTape(text);
            due("a fault ahead of it", y.fault(), 2);
            due("steps that the 16th refused", y.told(11), 2);
            due("a 17th " + text, y.work(text.length()), -20);
            due("no fault", y.fault(), NONE);
            due("the tape is empty", y.count(1), 0);
            due("works", y.count(2), 16);
            dueText("all behind it", state(y), state(fullWithTape(text)));
        }
        illegalWhole("work(21) with 16 works", () -> fullWithTape("rest;"), y -> y.work(21));
        illegalWhole("work(-1) with 16 works", () -> fullWithTape("rest;"), y -> y.work(-1));
        due("a fault with 15 works", work(withWorks(15), "rest;xyz"), -9);
        FeltHarness z = fullWithTape("rest;");
        due("undo", z.undo(), 15);
        due("a 16th once more", z.work(5), 1);
        due("and a 17th", work(z, "rest;"), -20);
        due("a new house", house(z, TWO), 2);
        due("work", work(z, "rest;"), 1);
    }

    private static void book() {
        says("Likewise the BOOK (n to 60): how many lines.");
        FeltHarness x = ready();
        due("two lines", book(x, "0 1;3 2;"), 2);
        due("told", x.told(10), 2);
        due("another one", book(x, "3 2;"), 1);
        due("told", x.told(10), 1);
        due("none", book(x, ""), 0);
        due("told", x.told(10), 0);
        FeltHarness y = ready();
        feed(y, "0 1;1 1;");
        due("the first 4 bytes", y.book(4), 1);
        due("the tape is empty then", y.count(1), 0);
        faulty(Kind.BOOK, 1, "0 1;2^");
        faulty(Kind.BOOK, 2, "0 1;^0 1;");
    }

    private static void fault() {
        says("The place of the FAULT of the latest text; NONE without.");
        FeltHarness x = new FeltHarness();
        due("without a text", x.fault(), NONE);
        for (Kind kind : Kind.values()) {
            FeltHarness y = ready();
            due("of an earlier text", y.fault(), 2);
            due("a fault at 0", tell(y, kind, "?"), -9);
            due("of " + kind, y.fault(), 0);
            due("a fault at the end", tell(y, kind, " ?"), -9);
            due("of " + kind, y.fault(), 1);
            due("taken", tell(y, kind, kind == Kind.LAW ? "1" : "") >= 0 ? 1 : 0, 1);
            due("none behind " + kind, y.fault(), NONE);
        }
    }

    private static void undo() {
        says("The latest WORK that was done (of no STEPS, too) is undone: how many are left; -1: there is none.");
        changesNothing("undo of none", FeltHarness::new, FeltHarness::undo, -1);
        FeltHarness x = told(TWO);
        String[] states = new String[17];
        for (int i = 0; i < 16; i++) {
            states[i] = workedOn(x);
            work(x, i % 3 == 0 ? "rest;" : i % 3 == 1 ? "" : i < 8 ? "put 0 0;drive;" : "out 0;draw 0 " + i % 9 + ";");
        }
        for (int left = 15; left >= 0; left--) {
            due("left", x.undo(), left);
            dueText("all behind undo", workedOn(x), states[left]);
            due("count", x.count(2), left);
        }
        due("none is left", x.undo(), -1);
        dueText("all at first", workedOn(x), states[0]);
        FeltHarness y = told(TWO);
        due("a fault is no work", work(y, "rest;xyz"), -9);
        due("none", y.undo(), -1);
        due("no steps", work(y, ""), 0);
        due("of no steps, too", y.undo(), 0);
        FeltHarness only = told(TWO, "9", "");
        book(only, "0 3;");
        work(only, "rest;");
        due("undo", only.undo(), 0);
        due("the law stays", only.force(0, 0), 9);
        due("the book stays", only.told(10), 1);
        due("what was undone can't be undone", only.undo(), -1);
    }

    // promise 9

    private static void told() {
        says("`int told(int what) throws IllegalArgumentException`");
        oneBound("told", "i", 0, 12, (x, v) -> x.told(v[0]));
        says("0 FEELINGS, 1 STAGES, 2 the DAY, 3 how many STAGES are behind, 4 who is in the TEAM (bits), 5 STRENGTH, 6 TILT, "
                + "7 how often they were THROUGH by now, 8 SPILT, 9 STUCK, 10 lines of the BOOK");
        int[] none = {0, 0, 0, 0, 0, 0, 0, 0, 0, 0, 0, 0, 12};
        int[] much = {8, 6, 1, 1, 192, 37, 3, 1, 1, 2, 8, 2, 40};
        FeltHarness x = told(EIGHT + "stage 1 0;stage 1 9;".repeat(3) + "bears 40;", "40", "put 7 0;drive;drive;");
        law(x, "0");
        work(x, "drive;drive;");
        book(x, "0 0;1 0;2 0;3 0;4 0;5 0;6 0;7 0;");
        law(x, "20-place*3");
        work(x, "rest;put 6 1;draw 0 5;out 0;");
        for (int i = 0; i < none.length; i++) {
            due("told " + i + " of a new object", new FeltHarness().told(i), none[i]);
            due("told " + i, x.told(i), much[i]);
        }
    }

    private static void told11() {
        says("11 STEPS REFUSED by the latest WORK (0 ahead of any, behind undo(), restore()), 12 N of bears.");
        FeltHarness x = told(TWO);
        due("ahead of any", x.told(11), 0);
        work(x, "home;home;home;");
        due("three", x.told(11), 3);
        work(x, "home;rest;");
        due("one", x.told(11), 1);
        work(x, "rest;");
        due("none", x.told(11), 0);
        work(x, "home;home;");
        work(x, "home;xyz");
        due("a text with a fault is no work that was done", x.told(11), 2);
        x.image();
        due("behind image", x.told(11), 2);
        law(x, "9");
        book(x, "0 0;");
        due("behind law and book", x.told(11), 2);
        due("undo", x.undo(), 3);
        due("behind undo", x.told(11), 0);
        work(x, "home;home;");
        due("restore", x.restore(), 0);
        due("behind restore", x.told(11), 0);
        work(x, "home;");
        due("no image", x.restore(), -1);
        due("behind a restore that did nothing", x.told(11), 1);
        house(x, TWO);
        due("ahead of any in a new house", x.told(11), 0);
        work(x, "again 60[home;home;home;home;];");
        due("199 of 200", x.told(11), 199);
        due("bears", x.told(12), 40);
    }

    // the arguments of promises 10 to 40

    private static void argumentsOfOne() {
        says("IllegalArgumentException: another what (so below).");
        oneBound("swap", "i", 0, 1, (x, v) -> x.swap(v[0]));
        oneBound("fits", "i", 0, 1, (x, v) -> x.fits(v[0]));
        oneBound("look", "i", 0, 1, (x, v) -> x.look(v[0]));
        oneBound("weariest", "i", 0, 1, (x, v) -> x.weariest(v[0]));
        oneBound("loosest", "i", 0, 1, (x, v) -> x.loosest(v[0]));
        oneBound("clashes", "i", 0, 1, (x, v) -> x.clashes(v[0]));
        oneBound("length", "i", 0, 1, (x, v) -> x.length(v[0]));
        says("FORCES of all who are NEAR (side 0), OFF (1) together.");
        oneBound("side", "i", 0, 1, (x, v) -> x.side(v[0]));
        says("The FEELING at a PLACE (0 to 3); NONE: there is none.");
        oneBound("at", "i", 0, 3, (x, v) -> x.at(v[0]));
        says("FEELINGS (bits) that could be put to a PLACE (0 to 3) now.");
        oneBound("willing", "i", 0, 3, (x, v) -> x.willing(v[0]));
        says("NoSuchElementException: no such FEELING, STAGE (so below, ahead of others).");
        oneBound("comes", "n", 0, 2, (x, v) -> x.comes(v[0]));
        oneBound("needs", "n", 0, 2, (x, v) -> x.needs(v[0]));
        oneBound("stall", "n", 0, 3, (x, v) -> x.stall(v[0]));
        oneBound("pairs", "n", 0, 3, (x, v) -> x.pairs(v[0]));
    }

    private static void argumentsOfMany() {
        says("Of a FEELING: 0 P, 1 S, 2 its PLACE (NONE: in the stable), 3 how tight its buckle is, 4 how TIRED it is, "
                + "5 those with which it CLASHES (bits).");
        bounds("feeling", "ni", new int[] {0, 0}, new int[] {3, 5}, (x, v) -> x.feeling(v[0], v[1]));
        says("Of a STAGE: 0 L, 1 T, 2 1 it is behind, 0 not.");
        bounds("stage", "ni", new int[] {0, 0}, new int[] {2, 2}, (x, v) -> x.stage(v[0], v[1]));
        says("FORCE of a FEELING now, were it at a PLACE (0 to 3; \"team\" as now).");
        bounds("force", "ni", new int[] {0, 0}, new int[] {3, 3}, (x, v) -> x.force(v[0], v[1]));
        says("FORCE by the LAW for such pull (1 to 20), steady, tight (0 to 9 both), tired (0 to 999), place (0 to 3), "
                + "stage (0 to 6), team (0 to 4), day (0 to 900).");
        bounds("would", "iiiiiiii", new int[] {1, 0, 0, 0, 0, 0, 0, 0}, new int[] {20, 9, 9, 999, 3, 6, 4, 900},
                (x, v) -> x.would(v[0], v[1], v[2], v[3], v[4], v[5], v[6], v[7]));
        says("TEAM of a STAGE: 0 STRENGTH, 1 TILT; NONE both: no way.");
        bounds("team", "ni", new int[] {0, 0}, new int[] {2, 1}, (x, v) -> x.team(v[0], v[1]));
        says("The FEELING at a PLACE (0 to 3) by TEAM of a STAGE; NONE: none, or no way.");
        bounds("stands", "ni", new int[] {0, 0}, new int[] {2, 3}, (x, v) -> x.stands(v[0], v[1]));
        says("THUMB by v, w (0 to 99)");
        bounds("thumb", "iii", new int[] {0, 0, 0}, new int[] {99, 99, 2}, (x, v) -> x.thumb(v[0], v[1], v[2]));
        says("STEADY of n (0 to 12), k (0 to 13), q (0 to 16): above (part 0), below (part 1), in least terms; k above n: 0 by 1.");
        bounds("steady", "iiii", new int[] {0, 0, 0, 0}, new int[] {12, 13, 16, 1}, (x, v) -> x.steady(v[0], v[1], v[2], v[3]));
        says("What a FEELING gets of n (0 to 9,999) by OATS among told FEELINGS");
        bounds("oats", "nii", new int[] {0, 0, 0}, new int[] {3, 15, 9999}, (x, v) -> x.oats(v[0], v[1], v[2]));
        says("How TIRED a FEELING is behind n rests (0 to 99), nothing else being done.");
        bounds("rested", "ni", new int[] {0, 0}, new int[] {3, 99}, (x, v) -> x.rested(v[0], v[1]));
    }

    private static void wouldOfEach() {
        says("FORCE by the LAW for such pull (1 to 20), steady, tight (0 to 9 both), tired (0 to 999), place (0 to 3), "
                + "stage (0 to 6), team (0 to 4), day (0 to 900).");
        String[] names = {"pull", "steady", "tight", "tired", "place", "stage", "team", "day"};
        int[] least = {1, 0, 0, 0, 0, 0, 0, 0};
        int[] most = {20, 9, 9, 999, 3, 6, 4, 900};
        for (int i = 0; i < names.length; i++) {
            int[] low = with(most, i, least[i]);
            int[] high = with(least, i, most[i]);
            int over = Math.max(0, most[i] - 50);
            FeltHarness x = readyWithLaw(names[i]);
            due(names[i] + " at the least", x.would(low[0], low[1], low[2], low[3], low[4], low[5], low[6], low[7]), least[i]);
            FeltHarness y = readyWithLaw(names[i] + "-" + over);
            due(names[i] + " at the most", y.would(high[0], high[1], high[2], high[3], high[4], high[5], high[6], high[7]),
                    most[i] - over);
        }
    }

    private static FeltHarness readyWithLaw(String text) {
        FeltHarness x = ready();
        due("law " + text, law(x, text), 1);
        return x;
    }

    private static void argumentsOfSeasons() {
        int min = Integer.MIN_VALUE;
        int max = Integer.MAX_VALUE;
        says("A SEASON of so many DAYS (1 to 96), Q (0 to 16): 0 how often they were THROUGH in it, 1 SPILT, 2 STUCK, "
                + "3 who is in the TEAM then (bits).");
        bounds("season", "-iii", new int[] {min, 1, 0, 0}, new int[] {max, 96, 16, 3},
                (x, v) -> x.season(v[0], v[1], v[2], v[3]));
        says("Of so many SEEDS (1 to 20; seed, seed and 1, ..): 0 the fewest times THROUGH in it, 1 the most, "
                + "2 by how many a FEELING is in the TEAM then. (IllegalArgumentException: no such FEELING, also for 0, 1.)");
        bounds("span", "-iiiii", new int[] {min, 1, 1, 0, 0, 0}, new int[] {max, 20, 96, 16, 2, 3},
                (x, v) -> x.span(v[0], v[1], v[2], v[3], v[4], v[5]));
        for (int what = 0; what <= 2; what++) {
            int w = what;
            illegalWhole("span of no such feeling, " + w, Bench::readyWithTape, x -> x.span(1, 1, 1, 0, w, 4));
            illegalWhole("span of no feelings, " + w, FeltHarness::new, x -> x.span(1, 1, 1, 0, w, 0));
        }
    }

    private static void noSuchGoesFirst() {
        says("NoSuchElementException: no such FEELING, STAGE (so below, ahead of others).");
        Make make = Bench::readyWithTape;
        missingWhole("feeling(4, 6)", make, x -> x.feeling(4, 6));
        missingWhole("feeling(-1, -1)", make, x -> x.feeling(-1, -1));
        missingWhole("stage(3, 3)", make, x -> x.stage(3, 3));
        missingWhole("force(4, 4)", make, x -> x.force(4, 4));
        missingWhole("team(3, 2)", make, x -> x.team(3, 2));
        missingWhole("stands(3, 4)", make, x -> x.stands(3, 4));
        missingWhole("oats(4, 16, 0)", make, x -> x.oats(4, 16, 0));
        missingWhole("oats(4, 0, 10000)", make, x -> x.oats(4, 0, 10000));
        missingWhole("oats(-1, -1, -1)", make, x -> x.oats(-1, -1, -1));
        missingWhole("rested(4, 100)", make, x -> x.rested(4, 100));
        missingWhole("rested(-1, -1)", make, x -> x.rested(-1, -1));
    }

    private static void noneAtAll() {
        says("`FeltHarness()`: A HOUSE without CLAUSES.");
        Make make = FeltHarness::new;
        missingWhole("feeling(0, 0)", make, x -> x.feeling(0, 0));
        missingWhole("stage(0, 0)", make, x -> x.stage(0, 0));
        missingWhole("force(0, 0)", make, x -> x.force(0, 0));
        missingWhole("comes(0)", make, x -> x.comes(0));
        missingWhole("team(0, 0)", make, x -> x.team(0, 0));
        missingWhole("stands(0, 0)", make, x -> x.stands(0, 0));
        missingWhole("stall(0)", make, x -> x.stall(0));
        missingWhole("oats(0, 0, 0)", make, x -> x.oats(0, 0, 0));
        missingWhole("rested(0, 0)", make, x -> x.rested(0, 0));
        missingWhole("needs(0)", make, x -> x.needs(0));
        missingWhole("pairs(0)", make, x -> x.pairs(0));
        for (int place = 0; place < 4; place++) {
            due("at", new FeltHarness().at(place), NONE);
            due("willing", new FeltHarness().willing(place), 0);
        }
        int[][] both = {{NONE, NONE}, {NONE, NONE}, {NONE, NONE}, {0, NONE}, {0, NONE}, {0, 0}, {0, 0}, {NONE, NONE}};
        for (int what = 0; what < 2; what++) {
            FeltHarness x = new FeltHarness();
            long[] got = {x.weariest(what), x.loosest(what), x.swap(what), x.fits(what), x.clashes(what), x.side(what),
                x.length(what), x.look(what)};
            for (int i = 0; i < got.length; i++) {
                due("answer " + i + " for " + what, got[i], both[i][what]);
            }
        }
        FeltHarness x = new FeltHarness();
        due("journey", x.journey(), 0);
        due("waits", x.waits(), NONE);
        due("stalls", x.stalls(), 0);
        due("open", x.open(), 0);
        due("lost", x.lost(), 0);
    }

    private static FeltHarness most() {
        return told(EIGHT + "stage 1 0;".repeat(6) + "bears 40;", "9", "put 7 3;");
    }

    private static void allThereCanBe() {
        says("8 at most");
        Make make = CallBoundsTest::most;
        FeltHarness x = most();
        due("feeling", x.feeling(7, 2), 3);
        missingWhole("feeling(8, 0)", make, y -> y.feeling(8, 0));
        due("force", x.force(7, 0), 9);
        missingWhole("force(8, 0)", make, y -> y.force(8, 0));
        due("stall", x.stall(7), 0);
        missingWhole("stall(8)", make, y -> y.stall(8));
        due("rested", x.rested(7, 99), 0);
        missingWhole("rested(8, 0)", make, y -> y.rested(8, 0));
        due("pairs", x.pairs(7), 127);
        missingWhole("pairs(8)", make, y -> y.pairs(8));
        due("oats", x.oats(7, 255, 9999), 0);
        missingWhole("oats(8, 0, 0)", make, y -> y.oats(8, 0, 0));
        illegalWhole("oats(7, 256, 0)", make, y -> y.oats(7, 256, 0));
        due("span", x.span(0, 1, 1, 0, 0, 7), 0);
        illegalWhole("span of 8", make, y -> y.span(0, 1, 1, 0, 0, 8));
        due("stage", x.stage(5, 0), 1);
        missingWhole("stage(6, 0)", make, y -> y.stage(6, 0));
        due("comes", x.comes(5), 2);
        missingWhole("comes(6)", make, y -> y.comes(6));
        due("team", x.team(5, 0), 36);
        missingWhole("team(6, 0)", make, y -> y.team(6, 0));
        due("stands", x.stands(5, 0), 0);
        missingWhole("stands(6, 0)", make, y -> y.stands(6, 0));
        due("needs", x.needs(5), 0);
        missingWhole("needs(6)", make, y -> y.needs(6));
    }

    // what promises 15 to 38 answer where there is none, and at their edges

    private static void comesToNeeds() {
        says("What a drive of a STAGE by the TEAM now would come to (behind or not): 0 STUCK, 1 SPILT, 2 THROUGH; "
                + "NONE: nobody is in the TEAM.");
        String house = "feeling 9 0;stage 30 0;stage 27 3;bears 12;";
        due("nobody", told(house, "11", "").comes(0), NONE);
        due("stuck", told(house, "10", "put 0 0;").comes(0), 0);
        due("just through", told(house, "11", "put 0 0;").comes(0), 2);
        due("just spilt", told(house, "10", "put 0 0;").comes(1), 1);
        FeltHarness behind = told(house, "12", "put 0 0;drive;");
        due("one is behind", behind.told(3), 1);
        due("behind", behind.comes(0), 2);
        due("13 tilts too much", told(house, "13", "put 0 0;").comes(0), 1);
        says("By how much more STRENGTH the TEAM, or nobody, would not be STUCK in a STAGE now (0: it would not be).");
        due("nobody", told(house, "11", "").needs(0), 11);
        due("nobody, the least", told("stage 1 0;").needs(0), 1);
        due("nobody, the most", told("stage 60 0;").needs(0), 21);
        due("one more", told(house, "10", "put 0 0;").needs(0), 1);
        due("just none", told(house, "11", "put 0 0;").needs(0), 0);
        due("more than enough", told(house, "60", "put 0 0;").needs(0), 0);
        due("no strength", told(house, "0", "put 0 0;").needs(0), 11);
    }

    private static void aheadOfDrives() {
        says("`int journey()`: JOURNEY.");
        due("none of six", told("feeling 9 0;" + "stage 60 0;".repeat(6), "20", "put 0 0;").journey(), 0);
        due("all of six", most().journey(), 6);
        says("`int waits()`: WAITS.");
        String house = "feeling 9 0;stage 1 0;";
        due("the least", told(house, "1", "put 0 0;").waits(), 0);
        due("the most", told(house, "day/99", "put 0 0;").waits(), 99);
        due("more", told(house, "day/100", "put 0 0;").waits(), NONE);
        due("nobody", told(house, "1", "").waits(), NONE);
        due("all are behind", told(house, "1", "put 0 0;drive;").waits(), NONE);
        says("TEAM of a STAGE: 0 STRENGTH, 1 TILT; NONE both: no way.");
        FeltHarness x = told("feeling 9 0;stage 30 0;stage 33 0;", "11", "");
        due("strength", x.team(0, 0), 11);
        due("tilt", x.team(0, 1), 11);
        due("no way", x.team(1, 0), NONE);
        due("no way", x.team(1, 1), NONE);
        says("The FEELING at a PLACE (0 to 3) by TEAM of a STAGE; NONE: none, or no way.");
        for (int place = 0; place < 4; place++) {
            due("none, or the feeling", x.stands(0, place), place == 0 ? 0 : NONE);
            due("no way", x.stands(1, place), NONE);
        }
    }

    private static void stallsAndSwap() {
        says("STALLS: how many (0: there are no FEELINGS).");
        due("no feelings", told("stage 1 0;").stalls(), 0);
        due("one feeling", told("feeling 1 0;").stalls(), 1);
        says("The stall (from 0 on) of a FEELING by STALLS.");
        FeltHarness clash = told("feeling 1 0;feeling 1 0;clash 0 1;");
        due("the first", clash.stall(0), 0);
        due("the next", clash.stall(1), 1);
        says("SWAP: 0 which (10 times the lesser PLACE, and the other one), 1 TILT by it; "
                + "NONE both: by none it is less (so, too, if TILT is 0, or nobody is in the TEAM).");
        String two = "feeling 4 0;feeling 6 0;";
        FeltHarness[] none = {told(two, "pull", ""), told(two, "5", "put 0 0;put 1 1;"), told(two, "5", "put 0 0;"),
            told(two, "0", "put 0 0;"), told("", "5", "")};
        for (FeltHarness x : none) {
            due("which", x.swap(0), NONE);
            due("tilt", x.swap(1), NONE);
        }
        FeltHarness x = told(two, "pull*place", "put 0 2;put 1 3;");
        due("which", x.swap(0), 23);
        due("tilt of 0 by it", x.swap(1), 0);
        FeltHarness first = told(two, "pull", "put 0 0;put 1 2;");
        due("which", first.swap(0), 1);
        due("tilt by it", first.swap(1), 2);
    }

    private static void fitsAndLook() {
        String two = "feeling 9 0;feeling 9 0;stage 1 0;";
        says("FITS: 0 how many, 1 the first (NONE).");
        FeltHarness x = told(two, "9", "put 0 0;put 1 1;");
        due("two pairs", x.fits(0), 2);
        due("the first", x.fits(1), 0);
        book(x, "0 1;");
        due("one pair", x.fits(0), 1);
        due("the first", x.fits(1), 1);
        book(x, "0 2;");
        due("no pair", x.fits(0), 0);
        due("no first", x.fits(1), NONE);
        says("LOOK: 0 the FEELING, 1 how many are left at the worst; NONE both: all are in lines, or there are none.");
        due("the one in no line", x.look(0), 1);
        due("0, as none is right", x.look(1), 0);
        book(x, "0 1;1 0;");
        due("all are in lines", x.look(0), NONE);
        due("all are in lines", x.look(1), NONE);
        book(x, "1 0;");
        due("all but one", x.look(0), 0);
        due("one is left", x.look(1), 1);
        due("no feelings", told("stage 1 0;").look(0), NONE);
        due("no feelings", told("stage 1 0;").look(1), NONE);
    }

    private static void thumb() {
        says("0 how many RESTS, 1 the first (10 times what the one does, 0 it holds, 1 it lets go, and the other one; NONE), "
                + "2 what both have by it together (0 without).");
        FeltHarness x = new FeltHarness();
        due("v is more: one lets go", x.thumb(4, 3, 1), 1);
        due("v is as much: both hold", x.thumb(3, 3, 1), 0);
        due("together", x.thumb(4, 3, 2), 4);
        due("together", x.thumb(3, 3, 2), 6);
        for (int v = 0; v <= 99; v += 9) {
            for (int w = 0; w <= 99; w += 11) {
                due("there is one by " + v + " and " + w, x.thumb(v, w, 0) > 0 ? 1 : 0, 1);
            }
        }
    }

    private static void stageAnswers() {
        String house = "feeling 9 0;stage 30 0;stage 27 3;stage 1 9;bears 12;";
        says("STAGES (bits) through which the TEAM would come, were each driven now by itself.");
        due("nobody", told(house, "11", "").open(), 0);
        due("no stages", told("feeling 9 0;", "11", "put 0 0;").open(), 0);
        due("the first", told(house, "11", "put 0 0;").open(), 1);
        due("none", told(house, "10", "put 0 0;").open(), 0);
        due("the last", told(house, "3", "put 0 0;").open(), 4);
        due("all six", most().open(), 63);
        due("behind, too", told(house, "12", "put 0 0;drive;").open(), 1);
        says("LENGTH of all STAGES together that are behind (what 0), that are not (1).");
        FeltHarness x = told(house + "bears 40;", "20", "put 0 0;");
        int[][] due = {{0, 58}, {30, 28}, {57, 1}, {58, 0}};
        for (int[] row : due) {
            due("behind", x.length(0), row[0]);
            due("not behind", x.length(1), row[1]);
            work(x, "drive;");
        }
        work(x, "home;");
        due("behind home", x.length(0), 0);
        FeltHarness long6 = told("stage 60 0;".repeat(6));
        due("the most", long6.length(1), 360);
        says("`int stage(int stage, int what) throws NoSuchElementException, IllegalArgumentException`: "
                + "Of a STAGE: 0 L, 1 T, 2 1 it is behind, 0 not.");
        FeltHarness y = told(house + "bears 40;", "20", "put 0 0;drive;drive;");
        due("the last that is behind", y.stage(1, 2), 1);
        due("the first that is not", y.stage(2, 2), 0);
        work(y, "drive;");
        due("all are", y.stage(2, 2), 1);
    }

    private static void feelingAnswers() {
        String four = "feeling 9 0;feeling 9 9;feeling 9 0;feeling 9 0;clash 1 3;stage 60 0;";
        says("The FEELING that is most TIRED (what 0), of alike ones the first, how TIRED (1); NONE both: there are none.");
        FeltHarness x = told(four, "0", "");
        due("alike", x.weariest(0) * 10 + x.weariest(1), 0);
        work(x, "put 1 0;put 2 1;drive;");
        due("the first of two", x.weariest(0), 1);
        due("how tired", x.weariest(1), 2);
        work(x, "out 1;drive;");
        due("the most", x.weariest(0), 2);
        due("how tired", x.weariest(1), 4);
        says("The FEELING in the TEAM whose buckle is least tight (what 0), of alike ones the first, how tight (1); "
                + "NONE both: the TEAM is empty.");
        FeltHarness y = told(four, "0", "draw 0 0;");
        due("empty", y.loosest(0), NONE);
        due("empty", y.loosest(1), NONE);
        work(y, "put 3 0;put 2 1;");
        due("alike", y.loosest(0), 2);
        due("how tight", y.loosest(1), 5);
        work(y, "draw 3 4;");
        due("the least", y.loosest(0), 3);
        work(y, "draw 2 0;");
        due("0", y.loosest(0) * 10 + y.loosest(1), 20);
        FeltHarness number0 = told(four, "0", "put 0 0;put 2 1;");
        due("the first of all", number0.loosest(0), 0);
        work(number0, "draw 2 4;");
        due("not the first of all", number0.loosest(0), 2);
        says("FEELINGS (bits) that could be put to a PLACE (0 to 3) now.");
        due("all", told(four).willing(3), 15);
        FeltHarness z = told(four, "", "put 1 2;");
        due("a place that is taken", z.willing(2), 0);
        due("not itself, nor who clashes", z.willing(3), 5);
        says("How many twos of FEELINGS CLASH (what 0); the FEELING that CLASHES with most others (1), of alike ones the first, "
                + "NONE: none CLASH.");
        due("none", told("feeling 9 0;feeling 9 0;").clashes(0), 0);
        due("none", told("feeling 9 0;feeling 9 0;").clashes(1), NONE);
        due("one", told(four).clashes(0), 1);
        due("the first of alike ones", told(four).clashes(1), 1);
        due("the most", told(four + "clash 3 2;").clashes(1), 3);
        says("FEELINGS (bits), but itself, with which a FEELING does not CLASH.");
        due("all others", told(four).pairs(0), 14);
        due("but one", told(four).pairs(3), 5);
        due("nobody else", told("feeling 9 0;").pairs(0), 0);
        due("all clash", told("feeling 9 0;feeling 9 0;clash 0 1;").pairs(1), 0);
        lostAndRested(four);
    }

    private static void lostAndRested(String four) {
        says("FEELINGS (bits) that would have no PLACE any more, were they SPILT now.");
        FeltHarness x = told(four, "", "put 0 0;put 1 1;put 2 2;draw 0 3;draw 1 4;draw 2 0;draw 3 0;");
        due("3 and 0, not 4, nor in the stable", x.lost(), 5);
        due("nobody", told(four).lost(), 0);
        says("How TIRED a FEELING is behind n rests (0 to 99), nothing else being done.");
        FeltHarness y = told(four, "0", "put 0 0;put 1 1;again 50[drive;];out 1;");
        int[][] rows = {{0, 0, 100}, {0, 1, 99}, {0, 99, 1}, {1, 0, 100}, {1, 1, 88}, {1, 8, 4}, {1, 9, 0}, {1, 99, 0}, {2, 1, 0}};
        for (int[] row : rows) {
            due("rested " + Arrays.toString(row), y.rested(row[0], row[1]), row[2]);
        }
        says("FORCES of all who are NEAR (side 0), OFF (1) together.");
        due("nobody near", told(four, "9", "put 0 1;put 2 3;").side(0), 0);
        due("two off", told(four, "9", "put 0 1;put 2 3;").side(1), 18);
        due("two near", told(four, "60", "put 0 0;put 2 2;").side(0), 120);
    }

    private static void oats() {
        says("(0, if it is none of them). IllegalArgumentException: bits of no FEELINGS.");
        Make make = () -> told("feeling 9 0;feeling 9 0;feeling 9 0;stage 60 0;", "0", "put 0 0;put 1 1;drive;");
        FeltHarness x = make.make();
        due("one of them", x.oats(0, 1, 9), 2);
        due("none of them", x.oats(0, 2, 9), 0);
        due("none at all", x.oats(0, 0, 9), 0);
        due("all", x.oats(1, 7, 9), 2);
        for (int bits : new int[] {8, 9, 15, 1 << 8, 1 << 30, Integer.MIN_VALUE, Integer.MAX_VALUE, -1, -8}) {
            illegalWhole("oats(0, " + bits + ", 9)", make, y -> y.oats(0, bits, 9));
            illegalWhole("oats(2, " + bits + ", 9)", make, y -> y.oats(2, bits, 9));
        }
    }

    private static void span() {
        says("0 the fewest times THROUGH in it, 1 the most, 2 by how many a FEELING is in the TEAM then.");
        FeltHarness x = told("feeling 9 0;feeling 9 0;stage 1 0;stage 1 0;", "9", "");
        for (int many : new int[] {1, 2, 7, 20}) {
            int fewest = Integer.MAX_VALUE;
            int most = 0;
            int[] in = new int[2];
            for (int i = 0; i < many; i++) {
                int through = x.season(Integer.MAX_VALUE - 3 + i, 9, 8, 0);
                int team = x.season(Integer.MAX_VALUE - 3 + i, 9, 8, 3);
                fewest = Math.min(fewest, through);
                most = Math.max(most, through);
                in[0] += team & 1;
                in[1] += team >> 1;
            }
            due("fewest of " + many, x.span(Integer.MAX_VALUE - 3, many, 9, 8, 0, 0), fewest);
            due("most of " + many, x.span(Integer.MAX_VALUE - 3, many, 9, 8, 1, 1), most);
            due("in the team by " + many, x.span(Integer.MAX_VALUE - 3, many, 9, 8, 2, 0), in[0]);
            due("in the team by " + many, x.span(Integer.MAX_VALUE - 3, many, 9, 8, 2, 1), in[1]);
        }
        due("no drive in any", x.span(1, 20, 96, 0, 1, 0), 0);
    }

    // promises 41 to 44

    private static FeltHarness withImages(int images) {
        FeltHarness x = ready();
        while (x.count(0) < images) {
            x.image();
            work(x, "rest;home;home;");
        }
        due("images", x.count(0), images);
        return x;
    }

    private static void images() {
        says("An IMAGE of all that WORK changes, and of WORKS that can be undone: how many there are; -1: there are 3.");
        FeltHarness x = told(TWO);
        for (int i = 1; i <= 3; i++) {
            due("image", x.image(), i);
            due("images", x.count(0), i);
        }
        changesNothing("a 4th image", () -> withImages(3), FeltHarness::image, -1);
        due("restore", x.restore(), 2);
        due("a 3rd once more", x.image(), 3);
        due("a 4th", x.image(), -1);
        due("a new house", house(x, TWO), 2);
        due("has none", x.count(0), 0);
        due("a first", x.image(), 1);
        FeltHarness full = withWorks(16);
        due("of 16 works", full.image(), 2);
        String then = workedOn(full);
        for (int i = 0; i < 16; i++) {
            full.undo();
        }
        work(full, "rest;");
        due("restore", full.restore(), 1);
        due("all 16 are there", full.count(2), 16);
        dueText("all that work changes", workedOn(full), then);
        due("a 17th", work(full, "rest;"), -20);
    }

    private static void restore() {
        says("All that is as in the latest IMAGE, which is gone: how many are left; -1: there is none.");
        changesNothing("restore without images", () -> {
            FeltHarness x = told(TWO);
            work(x, "rest;home;home;");
            return x;
        }, FeltHarness::restore, -1);
        changesNothing("restore of a new object", FeltHarness::new, FeltHarness::restore, -1);
        FeltHarness x = told(TWO);
        String[] states = new String[3];
        for (int i = 0; i < 3; i++) {
            states[i] = workedOn(x);
            x.image();
            work(x, "rest;put " + i % 2 + " " + i + ";drive;draw 0 " + i + ";");
        }
        for (int left = 2; left >= 0; left--) {
            due("left", x.restore(), left);
            dueText("as in image " + left, workedOn(x), states[left]);
            due("works as in it", x.count(2), left);
            due("images", x.count(0), left);
        }
        due("none is left", x.restore(), -1);
        FeltHarness y = told(TWO, "9", "");
        y.image();
        law(y, "8");
        book(y, "0 0;");
        feed(y, "rest;");
        due("restore", y.restore(), 0);
        due("the law stays", y.force(0, 0), 8);
        due("the book stays", y.told(10), 1);
        due("the tape stays", y.count(1), 20);
    }

    private static void statusAndCount() {
        says("How many calls were refused: 0 NoSuchElementException, 1 IllegalArgumentException; NONE for others. (No IMAGE keeps it.)");
        FeltHarness x = told(TWO);
        x.image();
        missing(x, "feeling", () -> x.feeling(2, 0));
        missing(x, "feeling", () -> x.feeling(2, 9));
        illegal(x, "at", () -> x.at(4));
        due("no such", x.status(0), 2);
        due("illegal", x.status(1), 1);
        x.restore();
        due("behind restore", x.status(0) * 10 + x.status(1), 21);
        work(x, "rest;");
        x.undo();
        due("behind undo", x.status(0) * 10 + x.status(1), 21);
        house(x, TWO);
        due("behind house", x.status(0) * 10 + x.status(1), 21);
        house(x, "?");
        due("a fault is no refusal", x.status(0) * 10 + x.status(1), 21);
        due("others", x.restore() + x.undo(), -2);
        due("nor is -1", x.status(0) * 10 + x.status(1), 21);
        for (int what : new int[] {-1, 2, 3, Integer.MIN_VALUE, Integer.MAX_VALUE}) {
            changesNothing("status of " + what, Bench::readyWithTape, y -> y.status(what), NONE);
        }
        says("0 IMAGES, 1 bytes of the TAPE, 2 WORKS that can be undone; NONE for others.");
        FeltHarness z = readyWithTape();
        due("images", z.count(0), 1);
        due("bytes", z.count(1), 20);
        due("works", z.count(2), 3);
        for (int what : new int[] {-1, 3, 4, Integer.MIN_VALUE, Integer.MAX_VALUE}) {
            changesNothing("count of " + what, Bench::readyWithTape, y -> y.count(what), NONE);
        }
    }
}
