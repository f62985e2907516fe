/** The bounds that "Terms" names for the four texts: the last that is taken and the first that is not. */
public final class TextBoundsTest extends Bench {
    private static final String FEELING = "feeling 1 0;";
    private static final String CLAUSES = "bears 7;".repeat(60);

    public static void main(String[] args) throws Exception {
        openDocument(args);
        houseBytes();
        clauses();
        feelings();
        clashes();
        stages();
        bears();
        lawBytes();
        lawWithout();
        force();
        lawGrammar();
        lawVariables();
        leastAndMost();
        wrapping();
        cutting();
        workBytes();
        steps();
        again();
        bookLines();
        numbers();
        words();
        blanks();
        faultKinds();
        sevenOpen();
        leastOfOne();
        finish("by the bounds of the texts");
    }

    private static void takenHouse(String text, int feelings) {
        taken(ready(), Kind.HOUSE, text, feelings);
    }

    private static void faultyHouse(int fault, String marked) {
        faulty(Kind.HOUSE, fault, marked);
    }

    /** The law is taken and gives the value. */
    private static void value(String text, int want) {
        FeltHarness x = ready();
        taken(x, Kind.LAW, text, 1);
        due("value of " + text, x.would(11, 3, 7, 40, 2, 5, 4, 90), want);
    }

    private static void faultyLaw(int fault, String marked) {
        faulty(Kind.LAW, fault, marked);
    }

    private static void faultyWork(int fault, String marked) {
        faulty(Kind.WORK, fault, marked);
    }

    private static void faultyBook(int fault, String marked) {
        faulty(Kind.BOOK, fault, marked);
    }

    private static String blank(int many) {
        return " ".repeat(many);
    }

    // the house

    private static void houseBytes() {
        says("A HOUSE is a text of up to 600 bytes");
        FeltHarness x = ready();
        taken(x, Kind.HOUSE, blank(592) + "bears 9;", 0);
        due("the clause that ends with the 600th byte", x.told(12), 9);
        faultyHouse(1, blank(593) + "bears 9^");
        FeltHarness full = new FeltHarness();
        feed(full, blank(600));
        due("a byte more does not come on the tape", full.feed(0, 0, 0, 0, 0), NONE);
        illegal(full, "house(601)", () -> full.house(601));
        due("600", full.house(600), 0);
    }

    private static void clauses() {
        says("{ CLAUSE \";\" }, at most 60");
        takenHouse("", 0);
        takenHouse(blank(20), 0);
        FeltHarness x = ready();
        taken(x, Kind.HOUSE, "bears 7;".repeat(59) + "bears 8;  ", 0);
        due("the 60th", x.told(12), 8);
        for (String word : new String[] {"bears 8;", "feeling 1 0;", "stage 1 0;", "clash 0 1;", "bears", "bears 99;"}) {
            faultyHouse(3, CLAUSES + "^" + word);
            faultyHouse(3, CLAUSES + "  ^" + word);
        }
        takenHouse("bears7;".repeat(52) + FEELING.repeat(8), 8);
        faultyHouse(1, "bears 7;^;");
        faultyHouse(1, "^;");
        faultyHouse(1, "bears 7^");
        faultyHouse(1, "bears 7 ^bears 7;");
    }

    private static void feelings() {
        says("\"feeling\" P S (FEELINGS, numbered from 0 on, 8 at most: PULL P, 1 to 20, STEADY S, 0 to 9)");
        FeltHarness x = ready();
        taken(x, Kind.HOUSE, "feeling 1 0;feeling 20 9;" + FEELING.repeat(5) + "feeling 2 3;", 8);
        due("the least pull", x.feeling(0, 0), 1);
        due("the least steady", x.feeling(0, 1), 0);
        due("the most pull", x.feeling(1, 0), 20);
        due("the most steady", x.feeling(1, 1), 9);
        due("the 8th has number 7", x.feeling(7, 0) * 10 + x.feeling(7, 1), 23);
        missing(x, "an 8 among eight", () -> x.feeling(8, 0));
        faultyHouse(3, FEELING.repeat(8) + "^feeling 1 0;");
        faultyHouse(3, FEELING.repeat(8) + " ^feeling 21 0;");
        faultyHouse(3, FEELING.repeat(8) + "^feeling");
        faultyHouse(2, "feeling ^0 0;");
        faultyHouse(2, "feeling ^21 0;");
        faultyHouse(2, "feeling 1 ^10;");
        faultyHouse(1, "feeling ^-1 0;");
        faultyHouse(1, "feeling 1 ^-1;");
        faultyHouse(1, "feeling 1^;");
        faultyHouse(1, "feeling^;");
        faultyHouse(1, "feeling 1 0 ^0;");
    }

    private static void clashes() {
        says("\"clash\" A B (FEELINGS A and B, both told ahead, B not A, CLASH; told once more, either way round, it is as once)");
        String two = FEELING.repeat(2);
        FeltHarness x = ready();
        taken(x, Kind.HOUSE, two + "clash 0 1;", 2);
        due("foes of 0", x.feeling(0, 5), 2);
        due("foes of 1", x.feeling(1, 5), 1);
        faultyHouse(2, two + "clash ^2 0;");
        faultyHouse(2, two + "clash 0 ^2;");
        faultyHouse(2, two + "clash ^2 2;");
        faultyHouse(2, two + "clash 0 ^0;");
        faultyHouse(2, two + "clash 1 ^1;");
        faultyHouse(2, "clash ^0 1;" + two);
        faultyHouse(2, FEELING + "clash 0 ^1;" + FEELING);
        faultyHouse(2, FEELING + "clash ^1 0;" + FEELING);
        faultyHouse(1, two + "clash 0^;");
        taken(x, Kind.HOUSE, FEELING.repeat(8) + "clash 7 6;clash 0 7;", 8);
        due("foes of the last", x.feeling(7, 5), 65);
        for (String more : new String[] {"clash 0 1;", "clash 1 0;", "clash 0 1;clash 1 0;clash 0 1;"}) {
            taken(x, Kind.HOUSE, two + "clash 0 1;" + more, 2);
            due("twos that clash", x.clashes(0), 1);
            due("foes of 0", x.feeling(0, 5), 2);
            due("foes of 1", x.feeling(1, 5), 1);
        }
    }

    private static void stages() {
        says("\"stage\" L T (STAGES likewise, 6: LENGTH L, 1 to 60, TURN T, 0 to 9)");
        FeltHarness x = ready();
        taken(x, Kind.HOUSE, "stage 1 0;stage 60 9;stage 1 0;stage 1 0;stage 1 0;stage 7 8;", 0);
        due("six", x.told(1), 6);
        due("the least length", x.stage(0, 0), 1);
        due("the least turn", x.stage(0, 1), 0);
        due("the most length", x.stage(1, 0), 60);
        due("the most turn", x.stage(1, 1), 9);
        due("the 6th has number 5", x.stage(5, 0) * 10 + x.stage(5, 1), 78);
        missing(x, "a 6 among six", () -> x.stage(6, 0));
        faultyHouse(3, "stage 1 0;".repeat(6) + "^stage 1 0;");
        faultyHouse(3, "stage 1 0;".repeat(6) + " ^stage 0 0;");
        faultyHouse(2, "stage ^0 0;");
        faultyHouse(2, "stage ^61 0;");
        faultyHouse(2, "stage 1 ^10;");
        faultyHouse(1, "stage 1^;");
        faultyHouse(1, "stage ^-1 0;");
        takenHouse(FEELING.repeat(8) + "stage 1 0;".repeat(6), 8);
    }

    private static void bears() {
        says("\"bears\" N (1 to 40; 12 without; the last counts)");
        FeltHarness x = ready();
        taken(x, Kind.HOUSE, "bears 1;", 0);
        due("the least", x.told(12), 1);
        taken(x, Kind.HOUSE, "bears 40;", 0);
        due("the most", x.told(12), 40);
        faultyHouse(2, "bears ^0;");
        faultyHouse(2, "bears ^41;");
        faultyHouse(1, "bears^;");
        faultyHouse(1, "bears 1 ^1;");
        taken(x, Kind.HOUSE, FEELING, 1);
        due("without", x.told(12), 12);
        taken(x, Kind.HOUSE, "bears 40;bears 1;bears 3;", 0);
        due("the last", x.told(12), 3);
    }

    // the law

    private static void lawBytes() {
        says("A LAW is a text of up to 150 bytes: E, at the end nothing more");
        value(blank(148) + "17", 17);
        value("17" + blank(148), 17);
        value("1-1+".repeat(37) + "17", 17);
        faultyLaw(1, "1+".repeat(75) + "^");
        FeltHarness x = new FeltHarness();
        feed(x, blank(150) + "17");
        illegal(x, "law(151)", () -> x.law(151));
        due("150 bytes of it are blank", x.law(150), -9);
        due("fault", x.fault(), 150);
        faultyLaw(1, "^");
        faultyLaw(1, blank(150) + "^");
        faultyLaw(1, "1 ^2");
        faultyLaw(1, "1^;");
        faultyLaw(1, "1^)");
        faultyLaw(1, "1 ^pull");
        faultyLaw(1, "pull ^pull");
        faultyLaw(1, "(1)^(2)");
    }

    private static void lawWithout() {
        says("without: pull + tight - tired / 4.");
        FeltHarness x = new FeltHarness();
        due("tired 3", x.would(10, 9, 5, 3, 3, 6, 4, 900), 15);
        due("tired 4", x.would(10, 9, 5, 4, 3, 6, 4, 900), 14);
        due("tired 999", x.would(20, 9, 9, 999, 0, 0, 0, 0), 0);
        due("the most", x.would(20, 0, 9, 0, 0, 0, 0, 0), 29);
        due("tired 60", x.would(10, 0, 5, 60, 0, 0, 0, 0), 0);
        due("tired 59", x.would(10, 0, 5, 59, 0, 0, 0, 0), 1);
    }

    private static void force() {
        says("FORCE of a FEELING at a PLACE: what comes out, 0 at least, 60 at most.");
        String[] laws = {"0-999", "0-1", "0", "1", "59", "60", "61", "999"};
        int[] forces = {0, 0, 0, 1, 59, 60, 60, 60};
        for (int i = 0; i < laws.length; i++) {
            FeltHarness x = told(TWO, laws[i], "put 0 0;put 1 2;");
            due("force by " + laws[i], x.force(0, 3), forces[i]);
            due("would by " + laws[i], x.would(1, 0, 0, 0, 0, 0, 0, 0), forces[i]);
            due("strength by " + laws[i], x.told(5), 2 * forces[i]);
            due("side by " + laws[i], x.side(0), 2 * forces[i]);
        }
    }

    private static void lawGrammar() {
        says("E: T { + or - T }. T: U { * or / or % U }. U: N (0 to 999)");
        value("0", 0);
        value("999-940", 59);
        faultyLaw(2, "^1000");
        faultyLaw(2, "1+^1000");
        value("20-5-3", 12);
        value("2+3*4", 14);
        value("99/5/3", 6);
        value("99%50%7", 0);
        value("7*9%10", 3);
        faultyLaw(1, "^+1");
        faultyLaw(1, "^-1");
        faultyLaw(1, "1+^");
        faultyLaw(1, "1-^-1");
        faultyLaw(1, "1*^*1");
        faultyLaw(1, "1%^%1");
        faultyLaw(1, "1/^");
        faultyLaw(1, "1+^*1");
        faultyLaw(1, "2^&3");
        says("or \"(\" E \")\"");
        value("(9)", 9);
        faultyLaw(1, "(9^");
        faultyLaw(1, "(^)");
        faultyLaw(1, "(^");
        faultyLaw(1, "(9^]");
        faultyLaw(1, "^)");
    }

    private static void lawVariables() {
        says("\"pull\" (P), \"steady\" (S), \"tight\" (its buckle by now), \"tired\" (by now), \"place\" (the PLACE, 0 to 3), "
                + "\"stage\" (how many STAGES are behind by now), \"team\" (how many FEELINGS are in the TEAM by now), \"day\" (by now)");
        FeltHarness x = told("feeling 20 0;feeling 1 9;feeling 9 4;feeling 9 4;stage 1 0;stage 1 0;bears 40;");
        law(x, "pull");
        due("pull of 0", x.force(0, 0), 20);
        due("pull of 1", x.force(1, 0), 1);
        law(x, "steady");
        due("steady of 0", x.force(0, 0), 0);
        due("steady of 1", x.force(1, 0), 9);
        law(x, "place");
        for (int p = 0; p < 4; p++) {
            due("place " + p, x.force(0, p), p);
        }
        law(x, "tight");
        due("tight at first", x.force(0, 0), 5);
        work(x, "draw 0 9;draw 1 0;");
        due("tight 9", x.force(0, 0), 9);
        due("tight 0", x.force(1, 0), 0);
        law(x, "team");
        due("team of none", x.force(0, 0), 0);
        work(x, "put 0 0;put 1 1;put 2 2;put 3 3;");
        due("team of four", x.force(0, 0), 4);
        law(x, "stage+60*tired");
        due("no stage behind", x.force(0, 0), 0);
        law(x, "20+stage");
        work(x, "drive;drive;");
        law(x, "stage");
        due("all behind", x.force(0, 0), 2);
        law(x, "tired");
        due("tired twice", x.force(0, 0), 2);
        law(x, "day");
        due("day 0", x.force(0, 0), 0);
        work(x, "rest;rest;rest;");
        due("day 3", x.force(0, 0), 3);
        law(x, "tired");
        due("tired no more", x.force(0, 0), 0);
        faultyLaw(1, "^pulls");
        faultyLaw(1, "^pul");
        faultyLaw(1, "^clash");
        faultyLaw(1, "^Pull");
    }

    private static void leastAndMost() {
        says("\"least\" \"[\" E \",\" E \"]\", \"most\" \"[\" E \",\" E \"]\"");
        value("least[3,4]", 3);
        value("least[4,3]", 3);
        value("least[4,4]", 4);
        value("most[3,4]", 4);
        value("most[4,3]", 4);
        value("most[4,4]", 4);
        value("9+least[0-3,0-4]", 5);
        value("9+most[0-3,0-4]", 6);
        faultyLaw(1, "least^");
        faultyLaw(1, "least^(1,2)");
        faultyLaw(1, "least[^");
        faultyLaw(1, "least[^,2]");
        faultyLaw(1, "least[1^]");
        faultyLaw(1, "least[1,^]");
        faultyLaw(1, "least[1,2^");
        faultyLaw(1, "least[1,2^)");
        faultyLaw(1, "most[1,2^,3]");
        faultyLaw(1, "most[1^;2]");
    }

    private static void wrapping() {
        says("Values are whole numbers of 32 bits that wrap");
        String least = "512*512*512*16";
        value(least + "-1", 60);
        value(least, 0);
        value("512*512*512*15", 60);
        value("0-" + least, 0);
        value("(" + least + "-1)+1", 0);
        value("(" + least + ")/512/512/512+17", 1);
        value("(" + least + "-1)/512/512/512+1", 16);
        value("512*512*512*32+7", 7);
        value("999*999*999*999+0", 0);
        value("(" + least + ")*2+5", 5);
        value("17+(" + least + ")/(0-1)/512/512/512", 1);
        value("5+(" + least + ")%(0-1)", 5);
        value("least[" + least + "," + least + "-1]", 0);
        value("most[" + least + "," + least + "-1]", 60);
    }

    private static void cutting() {
        says("/ cuts, % leaves (with the sign of what is divided), by 0 both are 0.");
        value("7/2", 3);
        value("10+(0-7)/2", 7);
        value("10+7/(0-2)", 7);
        value("10+(0-7)/(0-2)", 13);
        value("10+(0-1)/2", 10);
        value("7%4", 3);
        value("8%4", 0);
        value("10+(0-7)%4", 7);
        value("10+7%(0-4)", 13);
        value("10+(0-7)%(0-4)", 7);
        value("7/0+5", 5);
        value("7%0+5", 5);
        value("0/0+5", 5);
        value("0%0+5", 5);
        value("(0-7)/(1-1)+5", 5);
        value("(0-7)%(tight-7)+5", 5);
        value("7/1", 7);
        value("7%1+5", 5);
        value("9*(7/0)+4", 4);
    }

    // work

    private static void workBytes() {
        says("WORK is a text of up to 150 bytes: { STEP \";\" }.");
        FeltHarness x = ready();
        taken(x, Kind.WORK, blank(145) + "rest;", 1);
        taken(x, Kind.WORK, "rest;".repeat(30), 30);
        taken(x, Kind.WORK, "", 0);
        taken(x, Kind.WORK, blank(150), 0);
        faultyWork(1, "rest;".repeat(29) + " rest^");
        FeltHarness y = ready();
        feed(y, blank(146) + "rest;");
        illegal(y, "work(151)", () -> y.work(151));
        due("150 bytes of it end too early", y.work(150), -9);
        due("fault", y.fault(), 150);
        faultyWork(1, "rest^");
        faultyWork(1, "rest;^;");
        faultyWork(1, "rest ^rest;");
    }

    private static void steps() {
        says("STEP (F: a FEELING told): \"put\" F P (P 0 to 3), \"out\" F, \"draw\" F N (N 0 to 9), \"drive\", \"home\", \"rest\"");
        FeltHarness x = told(FEELING.repeat(8));
        taken(x, Kind.WORK, "put 0 0;put 7 3;", 2);
        taken(x, Kind.WORK, "draw 0 0;draw 7 9;", 2);
        taken(x, Kind.WORK, "out 7;out 0;", 2);
        Make eight = () -> told(FEELING.repeat(8));
        faulty(eight, Kind.WORK, 2, "put ^8 0;");
        faulty(eight, Kind.WORK, 2, "put 7 ^4;");
        faulty(eight, Kind.WORK, 2, "out ^8;");
        faulty(eight, Kind.WORK, 2, "draw ^8 0;");
        faulty(eight, Kind.WORK, 2, "draw 7 ^10;");
        faultyWork(2, "rest;put ^4 0;");
        faultyWork(2, "rest;out ^4;");
        faultyWork(2, "rest;draw ^4 0;");
        faultyWork(1, "rest;put 3^;");
        faultyWork(1, "rest;put^;");
        faultyWork(1, "rest;draw 3^;");
        faultyWork(1, "rest;out^;");
        faultyWork(1, "rest;drive ^1;");
        faultyWork(1, "rest;home ^0;");
        faultyWork(1, "rest;rest ^9;");
        faultyWork(1, "rest;^feeling 1 0;");
        faulty(FeltHarness::new, Kind.WORK, 2, "put ^0 0;");
        faulty(FeltHarness::new, Kind.WORK, 2, "rest;out ^0;");
        faulty(FeltHarness::new, Kind.WORK, 2, "draw ^0 5;");
        taken(new FeltHarness(), Kind.WORK, "rest;drive;home;", 1);
    }

    private static void again() {
        says("or \"again\" N \"[\" { STEP \";\" } \"]\" (N 0 to 60)");
        FeltHarness x = ready();
        taken(x, Kind.WORK, "again 0[rest;];", 0);
        taken(x, Kind.WORK, "again 1[rest;];", 1);
        taken(x, Kind.WORK, "again 60[rest;];", 60);
        taken(x, Kind.WORK, "again 60[];", 0);
        taken(x, Kind.WORK, "again 2[ ] ;", 0);
        faultyWork(2, "rest;again ^61[rest;];");
        faultyWork(1, "rest;again ^[rest;];");
        faultyWork(1, "rest;again 1 ^rest;");
        faultyWork(1, "rest;again 1[rest^];");
        faultyWork(1, "rest;again 1[rest;^");
        faultyWork(1, "rest;again 1[rest;]^");
        faultyWork(1, "rest;again 1[^;];");
        faultyWork(1, "rest;again 1[rest;^);");
        faultyWork(1, "rest;^];");
        faultyWork(1, "rest;again 1[];^];");
    }

    // the book

    private static void bookLines() {
        says("A BOOK is a text of up to 60 bytes: { F T \";\" }, no F twice: FEELING F, one told, is TIRED T (0 to 999).");
        FeltHarness x = ready();
        taken(x, Kind.BOOK, blank(54) + "3 999;", 1);
        due("lines", x.told(10), 1);
        taken(x, Kind.BOOK, "", 0);
        due("lines", x.told(10), 0);
        taken(x, Kind.BOOK, blank(60), 0);
        taken(x, Kind.BOOK, "0 0;", 1);
        taken(x, Kind.BOOK, "3 999;2 0;1 999;0 0;", 4);
        due("lines", x.told(10), 4);
        FeltHarness y = ready();
        feed(y, blank(57) + "0 7;");
        illegal(y, "book(61)", () -> y.book(61));
        due("60 bytes of it end too early", y.book(60), -9);
        due("fault", y.fault(), 60);
        faultyBook(2, "^4 0;");
        faultyBook(2, "0 ^1000;");
        faultyBook(2, "0 1;^0 1;");
        faultyBook(2, "0 1;1 1;2 1;3 1;^0 1;");
        faultyBook(2, "3 1;^3 1000;");
        faultyBook(1, "0 1^");
        faultyBook(1, "0^;");
        faultyBook(1, "^;");
        faultyBook(1, "0 1;^;");
        faultyBook(1, "0 ^-1;");
        faultyBook(1, "^feeling 0;");
        taken(told(FEELING.repeat(8)), Kind.BOOK, "7 0;6 1;5 2;4 3;3 4;2 5;1 6;0 7;", 8);
        faulty(() -> told(FEELING.repeat(8)), Kind.BOOK, 2, "7 0;6 1;5 2;4 3;3 4;2 5;1 6;0 7;^7 0;");
        faulty(FeltHarness::new, Kind.BOOK, 2, "^0 0;");
        taken(new FeltHarness(), Kind.BOOK, "", 0);
    }

    // all of them

    private static void numbers() {
        says("Numbers: digits, as many as stand there");
        takenHouse("feeling " + "0".repeat(100) + "20 0000000009;", 1);
        value("0".repeat(147) + "059", 59);
        taken(ready(), Kind.WORK, "again 0000000000000000002[rest;];", 2);
        taken(ready(), Kind.BOOK, "00000000000000000003 0000000999;", 1);
        for (String far : new String[] {"10000", "65537", "4294967297", "18446744073709551617", "9".repeat(100)}) {
            faultyHouse(2, "feeling ^" + far + " 0;");
            faultyHouse(2, "bears ^" + far + ";");
            faultyLaw(2, "pull+^" + far);
            faultyWork(2, "rest;again ^" + far + "[];");
            faultyWork(2, "rest;put ^" + far + " 0;");
        }
        faultyBook(2, "0 ^4294967296;");
        faultyBook(2, "^4294967296 0;");
        faultyHouse(1, "feeling 12^;");
        faultyHouse(1, "feeling ^/ 0;");
        faultyHouse(1, "feeling ^: 0;");
        faultyHouse(1, "bears 1^/;");
        faultyHouse(1, "bears 1^:;");
        faultyWork(1, "rest;put 00^;");
    }

    private static void words() {
        says("WORDS: small letters, as many as stand there");
        faultyHouse(1, "^feelings 1 0;");
        faultyHouse(1, "^feelin g 1 0;");
        faultyHouse(1, "^feelingclash 1 0;");
        faultyHouse(1, "^Feeling 1 0;");
        faultyHouse(1, "^feelinG 1 0;");
        faultyHouse(1, "^a;");
        faultyHouse(1, "^z;");
        faultyHouse(1, "^`;");
        faultyHouse(1, "^{;");
        faultyHouse(1, "feeling^`1 0;");
        faultyHouse(1, "feeling^{1 0;");
        faultyHouse(1, "^pull 1;");
        faultyWork(1, "rest;^restz;");
        faultyWork(1, "rest;^arest;");
        faultyWork(1, "rest;rest^A;");
        faultyWork(1, "rest;^stage;");
        faultyLaw(1, "pull+^mosts[1,2]");
        faultyLaw(1, "pull+^lea[1,2]");
        takenHouse("feeling1 0;feeling20 9;clash0 1;stage1 0;bears40;", 2);
        taken(ready(), Kind.WORK, "out3;put1 2;again2[draw1 8;];", 3);
        value("2*pull+tight", 29);
    }

    private static void blanks() {
        says("blanks (32) may stand ahead of all these, and at the end.");
        takenHouse("  feeling  1  0  ;  feeling 1 0 ; clash  0   1 ; stage  1  0 ; bears  3 ;   ", 2);
        value("  ( 2 + 3 ) * least [ 4 , most [ 1 , 2 ] ]  %  7  -  1  /  1  ", 2);
        taken(ready(), Kind.WORK, "  again  2  [  rest  ;  ]  ;  out  3  ;  ", 3);
        taken(ready(), Kind.BOOK, "  1  2  ;  2  3  ;  ", 2);
        for (char c : new char[] {0, 9, 10, 13, 31, 33, 127, 160, 255}) {
            faultyHouse(1, "^" + c + "bears 3;");
            faultyHouse(1, "bears^" + c + "3;");
            faultyHouse(1, "bears 3^" + c + ";");
            faultyHouse(1, "bears 3;^" + c);
            faultyLaw(1, "1 ^" + c);
            faultyWork(1, "rest;^" + c);
            faultyBook(1, "0 1^" + c + ";");
        }
        faultyHouse(1, "feeling 1 0 ^0;");
        faultyHouse(1, "bears 1 ^2;");
    }

    private static void faultKinds() {
        says("FAULTS, the first from the left, at its first byte");
        faultyHouse(2, "feeling ^0 x;");
        faultyHouse(1, "feeling ^x 10;");
        faultyHouse(2, "bears ^41;feeling;");
        faultyHouse(1, "feeling ^;bears 41;");
        faultyHouse(2, FEELING.repeat(7) + "feeling 1 ^10;feeling 1 0;");
        faultyHouse(3, FEELING.repeat(8) + "^feeling 1 10;");
        faultyLaw(2, "((((((^1000+(1)))))))");
        faultyLaw(3, "((((((^(1000)))))))");
        faultyWork(2, "put ^9 9;");
        faultyWork(2, "put 3 ^9;put 9 9;");
        faultyBook(2, "0 ^1000;0 1");
        says("1 what can't stand there (at the length, if the text ends too early)");
        for (String end : new String[] {"", " ", "     "}) {
            faultyHouse(1, "bears" + end + "^");
            faultyHouse(1, "bears 3" + end + "^");
            faultyHouse(1, "feeling 3" + end + "^");
            faultyHouse(1, FEELING + "clash" + end + "^");
            faultyLaw(1, "1+" + end + "^");
            faultyLaw(1, "least[1" + end + "^");
            faultyLaw(1, "(1" + end + "^");
            faultyWork(1, "rest;again 1[" + end + "^");
            faultyWork(1, "rest;again" + end + "^");
            faultyWork(1, "rest;put 0" + end + "^");
            faultyBook(1, "1" + end + "^");
            faultyBook(1, "1 1" + end + "^");
        }
        faultyHouse(1, "^bear");
        faultyWork(1, "rest;^re");
        for (String behind : new String[] {";", " ", "   ;", "3", "x"}) {
            FeltHarness x = ready();
            feed(x, "bears 3" + behind);
            due("what stands on the tape behind the text is not read: " + behind, x.house(7), -9);
            due("fault", x.fault(), 7);
            feed(x, "1+" + behind);
            due("nor behind a law: " + behind, x.law(2), -9);
            due("fault", x.fault(), 2);
            feed(x, "1" + behind);
            due("a law that ends ahead of it: " + behind, x.law(1), 1);
        }
        says("2 a number that is none such (B of clash as A; an F twice in a BOOK)");
        faultyHouse(2, FEELING.repeat(2) + "clash 1 ^1;");
        faultyHouse(2, FEELING.repeat(2) + "clash 1 ^01;");
        faultyBook(2, "1 5;^1 5;");
        faultyBook(2, "1 5;^01 6;");
        says("3 a CLAUSE, FEELING or STAGE too many (at its word)");
        faultyHouse(3, CLAUSES + "   ^bears 7;");
        faultyHouse(3, FEELING.repeat(8) + "   ^feeling 1 0;");
        faultyHouse(3, "stage 1 0;".repeat(6) + "   ^stage 1 0;");
    }

    private static void sevenOpen() {
        says("or a 7th of ( least most again that is open at one time");
        value("((((((9))))))", 9);
        faultyLaw(3, "((((((^(9)))))))");
        value("least[least[least[least[least[least[8,9],9],9],9],9],9]", 8);
        faultyLaw(3, "least[least[least[least[least[least[^least[8,9],9],9],9],9],9],9]");
        value("most[1,most[1,most[1,most[1,most[1,most[1,8]]]]]]", 8);
        faultyLaw(3, "most[1,most[1,most[1,most[1,most[1,most[1,^most[1,8]]]]]]]");
        value("(least[1,(most[1,(least[8,9])])])", 1);
        faultyLaw(3, "(least[1,(most[1,(least[ ^( 8 ),9])])])");
        faultyLaw(3, "(least[1,(most[1,(least[8, ^most[8,9]])])])");
        faultyLaw(3, "(((((( ^least");
        value("(1)+(1)+(1)+(1)+(1)+(1)+(1)+(1)", 8);
        value("((((((1))))))+((((((1))))))", 2);
        value("least[(((((7))))),(((((8)))))]", 7);
        faultyLaw(3, "least[(((((7))))),(((((^(8))))))]");
        String six = "again 1[".repeat(6);
        taken(ready(), Kind.WORK, six + "rest;" + "];".repeat(6), 1);
        faultyWork(3, six + "^again 1[];" + "];".repeat(6));
        faultyWork(3, six + "rest; ^again 99[];" + "];".repeat(6));
        faultyWork(3, six + "^again");
        taken(ready(), Kind.WORK, "again 1[];".repeat(7) + "rest;", 1);
        taken(ready(), Kind.WORK, six + "];".repeat(5) + "again 1[rest;];];", 1);
        taken(ready(), Kind.WORK, six + "rest;" + "];".repeat(6) + six + "rest;" + "];".repeat(6), 2);
    }

    private static void leastOfOne() {
        says("of one the least.");
        faultyHouse(1, CLAUSES + "^bear 7;");
        faultyHouse(1, CLAUSES + " ^;");
        faultyHouse(1, CLAUSES + "^7;");
        faultyHouse(3, CLAUSES + "^bears x;");
        faultyLaw(1, "((((((^leasts[1,2]))))))");
        faultyWork(1, "again 1[".repeat(6) + "^agains 1[];");
    }
}
