import java.util.Arrays;

/** Promise by promise: ordinary inputs, the edges that the document names, wrong inputs. All due answers are by hand. */
public final class PromisesTest extends Bench {
    private static final String INN = "feeling 10 2;feeling 8 0;feeling 20 9;feeling 5 3;feeling 1 5;"
            + "clash 0 2;clash 3 4;clash 2 0;stage 30 3;stage 60 9;stage 9 0;bears 14;";

    public static void main(String[] args) {
        newObjectFeedHouse();
        houseFaults();
        lawValues();
        lawFaults();
        workSteps();
        workDrives();
        workBounds();
        workFaults();
        bookAndFault();
        undoAndTold();
        feelingStageAtForce();
        wouldRanges();
        comesJourneyWaits();
        teamStands();
        stallsAndSwap();
        fitsAndLook();
        thumbAndSteady();
        oats();
        weariestToClashes();
        openToLength();
        seasons();
        images();
        statusAndCount();
        finish("by the promises");
    }

    // texts with faults

    private static void houseFault(String text, int answer, int place) {
        FeltHarness x = told(TWO);
        due("house " + text, house(x, text), answer);
        due("fault of house " + text, x.fault(), place);
        due("feelings that stay behind " + text, x.told(0), 2);
        due("tape behind " + text, x.count(1), 0);
    }

    private static void lawFault(String text, int answer, int place) {
        FeltHarness x = told(TWO, "7", "");
        due("law " + text, law(x, text), answer);
        due("fault of law " + text, x.fault(), place);
        due("law that stays behind " + text, x.force(0, 0), 7);
    }

    private static void workFault(String text, int answer, int place) {
        FeltHarness x = told(TWO);
        due("work " + text, work(x, text), answer);
        due("fault of work " + text, x.fault(), place);
        due("day behind " + text, x.told(2), 0);
        due("works behind " + text, x.count(2), 0);
    }

    private static void bookFault(String text, int answer, int place) {
        FeltHarness x = told(TWO);
        book(x, "1 7;");
        due("book " + text, book(x, text), answer);
        due("fault of book " + text, x.fault(), place);
        due("lines that stay behind " + text, x.told(10), 1);
    }

    private static void lawValue(String text, int value) {
        FeltHarness x = told(TWO);
        due("law " + text, law(x, text), 1);
        due("fault of law " + text, x.fault(), NONE);
        due("value of " + text, x.would(11, 3, 7, 40, 2, 5, 4, 90), value);
    }

    // promises 1 to 3

    private static void newObjectFeedHouse() {
        promise(1);
        FeltHarness x = new FeltHarness();
        int[] first = {0, 0, 0, 0, 0, 0, 0, 0, 0, 0, 0, 0, 12};
        for (int i = 0; i < first.length; i++) {
            due("told " + i, x.told(i), first[i]);
        }
        due("fault", x.fault(), NONE);
        due("status 0", x.status(0), 0);
        due("status 1", x.status(1), 0);
        due("would", x.would(10, 0, 5, 8, 0, 0, 0, 0), 13);

        promise(2);
        x = new FeltHarness();
        due("feed", x.feed(0x62656172, 0x7320373b, 0x2020ff00, -1, 0x80000000), 20);
        due("house of 9 bytes", x.house(9), 0);
        due("bears", x.told(12), 7);
        x.feed(0x62656172, 0x7320373b, 0x2020ff00, -1, 0x80000000);
        due("house of 11 bytes", x.house(11), -9);
        due("fault", x.fault(), 10);
        for (int i = 1; i <= 30; i++) {
            due("feed", x.feed(0x20202020, 0x20202020, 0x20202020, 0x20202020, 0x20202020), 20 * i);
        }
        due("a 31st feed", x.feed(0, 0, 0, 0, 0), NONE);
        due("bytes", x.count(1), 600);
        due("house of 600 blanks", x.house(600), 0);

        promise(3);
        x = told(TWO);
        due("feelings", x.told(0), 2);
        due("stages", x.told(1), 2);
    }

    private static void houseFaults() {
        promise(3);
        FeltHarness x = new FeltHarness();
        x.feed(0x62656172, 0x7320373b, 0x2020ff00, -1, 0x80000000);
        illegal(x, "house(21)", () -> x.house(21));
        illegal(x, "house(-1)", () -> x.house(-1));
        due("tape", x.count(1), 20);
        due("house(8)", x.house(8), 0);
        due("tape", x.count(1), 0);
        due("house(0)", x.house(0), 0);
        due("bears", x.told(12), 12);

        FeltHarness y = told("  feeling  3  4 ;feeling20 9;clash 1 0;clash 0 1 ; bears 3;bears 0040;stage 60 9;  ");
        due("feelings", y.told(0), 2);
        due("P", y.feeling(0, 0), 3);
        due("S", y.feeling(0, 1), 4);
        due("P of 1", y.feeling(1, 0), 20);
        due("clashes as once", y.clashes(0), 1);
        due("the last bears", y.told(12), 40);
        due("fault", y.fault(), NONE);

        FeltHarness z = told(TWO, "7", "put 0 0;put 1 1;drive;rest;rest;rest;rest;home;home;");
        book(z, "0 1;");
        z.image();
        due("day", z.told(2), 4);
        due("house once more", house(z, TWO), 2);
        int[] anew = {2, 2, 0, 0, 0, 0, 0, 0, 0, 0, 0, 0, 40};
        for (int i = 0; i < anew.length; i++) {
            due("told " + i + " anew", z.told(i), anew[i]);
        }
        due("no LAW", z.force(0, 0), 25);
        due("no IMAGES", z.count(0), 0);
        due("nothing to undo", z.undo(), -1);
        due("tired anew", z.feeling(0, 4), 0);

        houseFault("feeling 0 0;", -8, 8);
        houseFault("feeling 21 0;", -8, 8);
        houseFault("feeling 99999999999 0;", -8, 8);
        houseFault("feeling 1 10;", -8, 10);
        houseFault("feeling 110;", -8, 8);
        houseFault("feeling 11;", -9, 10);
        houseFault("feeling 1 1 1;", -9, 12);
        houseFault("feelings 1 1;", -9, 0);
        houseFault(" Feeling 1 1;", -9, 1);
        houseFault("feeling\t1 1;", -9, 7);
        houseFault("feeling x 1;", -9, 8);
        houseFault(";", -9, 0);
        houseFault("7;", -9, 0);
        houseFault("feeling 1 1;;", -9, 12);
        houseFault("clash 0 1;", -8, 6);
        houseFault("feeling 1 1;clash 0 1;", -8, 20);
        houseFault("feeling 1 1;feeling 1 1;clash 1 1;", -8, 32);
        houseFault("feeling 1 1;clash 0 1;feeling 1 1;", -8, 20);
        houseFault("stage 0 0;", -8, 6);
        houseFault("stage 61 0;", -8, 6);
        houseFault("stage 1 10;", -8, 8);
        houseFault("bears 0;", -8, 6);
        houseFault("bears 41;", -8, 6);
        houseFault("bears 41", -8, 6);
        houseFault("bears 4", -9, 7);
        houseFault("bears 4   ", -9, 10);
        houseFault("bears", -9, 5);
        houseFault("feeling 1 0;".repeat(9), -7, 96);
        houseFault("stage 1 0;".repeat(7), -7, 60);
        houseFault("bears 1;".repeat(60) + "  clash", -7, 482);
        houseFault("bears 1;".repeat(60) + "clashes", -9, 480);
        due("60 clauses", house(x, "bears 1;".repeat(59) + "bears 9; "), 0);
        due("the 60th", x.told(12), 9);
        due("eight", house(x, "feeling 1 0;".repeat(8)), 8);
        house(x, "stage 1 0;".repeat(6));
        due("six", x.told(1), 6);
    }

    // promise 4

    private static void lawValues() {
        promise(4);
        lawValue("2+3*4", 14);
        lawValue("20-5-3", 12);
        lawValue("100/7%4", 2);
        lawValue("100%7*4", 8);
        lawValue(" ( 2 + 3 ) * 4 ", 20);
        lawValue("10+(0-7)/2", 7);
        lawValue("10+(0-7)%3", 9);
        lawValue("10+7%(0-3)", 11);
        lawValue("7/0+7%0+5", 5);
        lawValue("least[3,4]+most[5,6]*10-15", 48);
        lawValue("least [ 0-1 , most [ 2 , 3 ] ] + 9", 8);
        lawValue("61", 60);
        lawValue("60", 60);
        lawValue("0-1", 0);
        lawValue("999*999*999*999", 0);
        lawValue("0-999*999*999*999", 60);
        lawValue("0-999*999*999*999%999-500", 14);
        lawValue("pull", 11);
        lawValue("steady", 3);
        lawValue("tight", 7);
        lawValue("tired", 40);
        lawValue("place", 2);
        lawValue("stage", 5);
        lawValue("team", 4);
        lawValue("day-50", 40);
        lawValue("000000000012", 12);
        lawValue("((((((9))))))", 9);
        lawValue("least[(1),(2)]+least[least[least[least[least[least[1,2],3],4],5],6],7]", 2);
        lawValue("7" + " ".repeat(149), 7);

        FeltHarness x = told(TWO);
        feed(x, "7" + " ".repeat(159));
        illegal(x, "law(151)", () -> x.law(151));
        due("tape", x.count(1), 160);
        illegal(x, "law(-1)", () -> x.law(-1));
        due("law(150)", x.law(150), 1);
        due("tape", x.count(1), 0);
        illegal(x, "law(1)", () -> x.law(1));
        due("without", told(TWO).would(10, 9, 5, 39, 3, 6, 4, 900), 6);
        FeltHarness y = told(TWO, "", "put 0 0;put 1 1;drive;");
        due("law keeps the rest", law(y, "stage*10+team") + y.told(3), 2);
        due("by now", y.force(0, 0), 12);
        due("works stay", y.count(2), 1);
    }

    private static void lawFaults() {
        lawFault("", -9, 0);
        lawFault("   ", -9, 3);
        lawFault("1 2", -9, 2);
        lawFault("1+", -9, 2);
        lawFault("1+ ", -9, 3);
        lawFault("+1", -9, 0);
        lawFault("1)", -9, 1);
        lawFault("(1", -9, 2);
        lawFault("()", -9, 1);
        lawFault("least(1,2)", -9, 5);
        lawFault("least[1]", -9, 7);
        lawFault("least[1,2", -9, 9);
        lawFault("least[1,2,3]", -9, 9);
        lawFault("most[1,1000]", -8, 7);
        lawFault("1000", -8, 0);
        lawFault("pulls", -9, 0);
        lawFault("pull7", -9, 4);
        lawFault("Pull", -9, 0);
        lawFault("1;", -9, 1);
        lawFault("2*again", -9, 2);
        lawFault("1+(((((((1)))))))", -7, 8);
        lawFault("((((((least[1,2]))))))", -7, 6);
        lawFault("((((((least", -7, 6);
        lawFault("least[(((((((", -7, 11);
        lawFault("(((((( 1000 + (", -8, 7);
        lawFault("least[most[least[most[least[most[least[1", -7, 33);
        lawFault("least[1,least[1,least[1,least[1,least[1,least[1,(", -7, 48);
        lawValue("least[9,least[9,least[9,least[9,least[9,least[9,8]]]]]]", 8);
        lawValue("least[least[least[least[least[least[8,9],9],9],9],9],9]", 8);
    }

    // promise 5

    private static void workSteps() {
        promise(5);
        FeltHarness x = told(INN);
        due("put", work(x, "put 0 0;"), 1);
        due("at", x.at(0), 0);
        due("put once more", work(x, "put 0 1;"), 0);
        due("refused", x.told(11), 1);
        due("put to one taken", work(x, "put 1 0;put1 1;"), 1);
        due("put one that clashes", work(x, "put 2 2;"), 0);
        due("who", x.told(4), 3);
        due("out", work(x, "out 0;out 0;put 2 2;"), 2);
        due("refused", x.told(11), 1);
        due("who", x.told(4), 6);
        due("draw", work(x, "draw 1 5;draw 1 9;draw 4 0;draw 4 0;"), 2);
        due("tight", x.feeling(1, 3), 9);
        due("tight in the stable", x.feeling(4, 3), 0);
        due("home with none behind", work(x, "home;"), 0);
        due("no steps", work(x, ""), 0);
        due("agains", work(x, " again 3 [ rest ; again 2 [ rest ; ] ; ] ; again 0 [rest;];again 60 [];"), 9);
        due("day", x.told(2), 9);
        due("works", x.count(2), 9);

        FeltHarness y = told(INN, "0", "put 0 0;again 3[drive;];out 0;");
        due("tired by being stuck", y.feeling(0, 4), 6);
        work(y, "rest;");
        due("rest in the stable", y.feeling(0, 4), 1);
        work(y, "rest;");
        due("0 at least", y.feeling(0, 4), 0);
        work(y, "put 0 3;drive;rest;");
        due("rest in the team", y.feeling(0, 4), 1);
        due("day", y.told(2), 3);
    }

    private static void workDrives() {
        FeltHarness x = told("feeling 1 0;stage 60 0;", "", "drive;put 0 0;drive;");
        due("drive by nobody", x.told(11), 1);
        due("stuck", x.told(9), 1);
        due("tired", x.feeling(0, 4), 2);
        due("behind", x.told(3), 0);

        FeltHarness y = told("feeling 20 0;stage 9 0;", "", "put 0 2;drive;");
        due("spilt", y.told(8), 1);
        due("tired", y.feeling(0, 4), 5);
        due("tight", y.feeling(0, 3), 2);
        due("in the team", y.told(4), 1);
        work(y, "drive;");
        due("tired", y.feeling(0, 4), 10);
        due("tight", y.feeling(0, 3), 0);
        due("in the stable", y.told(4), 0);

        FeltHarness z = told(TWO, "", "put 0 0;put 1 1;drive;");
        due("through", z.told(7), 1);
        due("tired", z.feeling(0, 4), 2);
        work(z, "drive;");
        due("tired by the turn", z.feeling(1, 4), 6);
        due("all behind", work(z, "drive;"), 0);
        due("home", work(z, "home;home;"), 1);
        due("none behind", z.told(3), 0);
        due("through stays", z.told(7), 2);

        due("just strong enough", told("feeling 1 0;stage 18 0;", "7", "put 0 0;drive;").told(7), 1);
        due("not strong enough", told("feeling 1 0;stage 21 0;", "7", "put 0 0;drive;").told(9), 1);
        due("a third is cut", told("feeling 1 0;stage 20 0;", "7", "put 0 0;drive;").told(7), 1);
        due("tilt just borne", told("feeling 1 0;stage 1 5;", "7", "put 0 0;drive;").told(7), 1);
        due("tilt not borne", told("feeling 1 0;stage 1 6;", "7", "put 0 1;drive;").told(8), 1);
        due("places 0 and 2 are one side", told("feeling 1 0;feeling 1 0;stage 1 0;", "7", "put 0 0;put 1 2;drive;").told(8), 1);
        due("places 1 and 3 are one side", told("feeling 1 0;feeling 1 0;stage 1 0;", "7", "put 0 1;put 1 3;drive;").told(8), 1);
        due("places 2 and 3 are two sides", told("feeling 1 0;feeling 1 0;stage 1 0;", "7", "put 0 2;put 1 3;drive;").told(7), 1);
        due("stuck goes ahead of spilt", told("feeling 1 0;stage 60 9;", "7", "put 0 0;drive;").told(9), 1);
        due("tired by length and turn", told("feeling 1 0;stage 60 8;bears 40;", "23", "put 0 0;drive;").feeling(0, 4), 5);
    }

    private static void workBounds() {
        FeltHarness x = told(TWO, "0", "");
        due("200 steps", work(x, "put 0 0;again 60[drive;drive;drive;drive;];rest;"), 199);
        due("refused", x.told(11), 0);
        due("tired", x.feeling(0, 4), 396);
        due("day", x.told(2), 0);
        work(x, "again 60[drive;drive;drive;drive;];");
        work(x, "again 60[drive;drive;drive;drive;];");
        due("999 at most", x.feeling(0, 4), 999);
        due("refused ones count", work(x, "again 60[out 1;out 1;out 1;out 1;];"), 0);
        due("refused", x.told(11), 199);
        due("agains count", work(x, "again 60[again 1[rest;];];"), 60);
        due("agains count", work(x, "again 60[again 60[again 60[];];];"), 0);
        due("agains count to the end", work(x, "again 60[again 1[];again 2[];again 3[];again 4[rest;];];"), 99);

        FeltHarness y = told(TWO);
        for (int i = 0; i < 4; i++) {
            due("rests", work(y, "again 60[rest;rest;rest;rest;];"), 199);
        }
        due("rests until day 900", work(y, "again 60[rest;rest;rest;rest;];"), 104);
        due("refused", y.told(11), 95);
        due("day", y.told(2), 900);
        for (int i = 5; i < 16; i++) {
            due("work", work(y, ""), 0);
        }
        due("a fault", book(y, "x"), -9);
        due("fault", y.fault(), 0);
        feed(y, "put 0 0;");
        illegal(y, "work(21)", () -> y.work(21));
        due("fault stays", y.fault(), 0);
        due("a 17th", y.work(8), -20);
        due("no fault", y.fault(), NONE);
        due("tape", y.count(1), 0);
        due("refused stays", y.told(11), 0);
        due("a 17th with a fault", work(y, "xyz;"), -20);
        due("no fault", y.fault(), NONE);
        due("undo", y.undo(), 15);
        due("a 16th again", work(y, "put 0 0;"), 1);

        FeltHarness z = told(TWO);
        feed(z, "rest;" + " ".repeat(155));
        illegal(z, "work(151)", () -> z.work(151));
        illegal(z, "work(-1)", () -> z.work(-1));
        due("tape", z.count(1), 160);
        due("work(150)", z.work(150), 1);
        due("thirty steps", work(z, "rest;".repeat(29) + "out0;"), 29);
    }

    private static void workFaults() {
        workFault("rest;put 2 0;", -8, 9);
        workFault("rest;put 0 4;", -8, 11);
        workFault("rest;out 2;", -8, 9);
        workFault("rest;draw 2 0;", -8, 10);
        workFault("rest;draw 0 10;", -8, 12);
        workFault("rest;again 61 [];", -8, 11);
        workFault("rest;rests;", -9, 5);
        workFault("rest;restz;", -9, 5);
        workFault("rest;arest;", -9, 5);
        workFault("rest;rest`;", -9, 9);
        workFault("rest;rest{;", -9, 9);
        workFault("rest;out /;", -9, 9);
        workFault("rest;out :;", -9, 9);
        workFault("rest;rest", -9, 9);
        workFault("rest;rest  ", -9, 11);
        workFault("rest;rest 1;", -9, 10);
        workFault("rest;;", -9, 5);
        workFault("rest;]", -9, 5);
        workFault("rest;again 1 rest;", -9, 13);
        workFault("rest;again [rest;];", -9, 11);
        workFault("rest;again 1 [rest];", -9, 18);
        workFault("rest;again 1 [rest;]", -9, 20);
        workFault("rest;again 1 [rest;", -9, 19);
        workFault("rest;put 0;", -9, 10);
        workFault("rest;put 00;", -9, 11);
        workFault("rest;again 1[again 1[again 1[again 1[again 1[again 1[ again", -7, 54);
        workFault("rest;again 1[again 1[again 1[again 1[again 1[again 61[", -8, 51);
        FeltHarness x = told(TWO);
        due("six at one time", work(x, "again 1[again 1[again 1[again 1[again 1[again 1[rest;];];];];];];"), 1);
        due("one after another", work(x, "again 1[];again 1[];again 1[];again 1[];again 1[];again 1[];again 1[rest;];"), 1);
        due("no feelings told", work(new FeltHarness(), "out 0;"), -8);
        work(x, "home;");
        due("refused", x.told(11), 1);
        work(x, "home;home");
        due("a fault leaves it", x.told(11), 1);
    }

    // promises 6 and 7

    private static void bookAndFault() {
        promise(6);
        FeltHarness x = told(INN);
        due("book", book(x, " 4 999 ; 0 0;  "), 2);
        due("lines", x.told(10), 2);
        due("book of none", book(x, ""), 0);
        due("lines", x.told(10), 0);
        due("all", book(x, "0 1;1 1;2 1;3 1;4 1;"), 5);
        feed(x, "0 7;" + " ".repeat(60));
        illegal(x, "book(61)", () -> x.book(61));
        illegal(x, "book(-1)", () -> x.book(-1));
        due("tape", x.count(1), 80);
        due("book(60)", x.book(60), 1);
        due("tape", x.count(1), 0);
        due("eight lines", book(told("feeling 1 0;".repeat(8)), "7 0;6 0;5 0;4 0;3 0;2 0;1 0;0 0;"), 8);
        bookFault("2 0;", -8, 0);
        bookFault("0 1000;", -8, 2);
        bookFault("0 1;0 0;", -8, 4);
        bookFault("0 1; 1 1; 1", -8, 10);
        bookFault("0 1", -9, 3);
        bookFault("0;", -9, 1);
        bookFault("a 1;", -9, 0);
        bookFault("0 1,1 1;", -9, 3);
        bookFault(";", -9, 0);
        promise(7);
        FeltHarness y = told(TWO);
        due("without", y.fault(), NONE);
        law(y, "1+");
        due("of the law", y.fault(), 2);
        illegal(y, "law(1)", () -> y.law(1));
        due("none was read", y.fault(), 2);
        y.undo();
        y.image();
        y.restore();
        due("none was read", y.fault(), 2);
        law(y, "1");
        due("the latest is right", y.fault(), NONE);
    }

    // promises 8 and 9

    private static void undoAndTold() {
        promise(8);
        FeltHarness x = told(TWO);
        due("none", x.undo(), -1);
        work(x, "put 0 0;put 1 1;");
        work(x, "drive;drive;draw 0 9;rest;home;drive;out 1;out 1;");
        work(x, "");
        work(x, "xyz");
        due("of no steps", x.undo(), 2);
        due("through", x.told(7), 3);
        due("the drives", x.undo(), 1);
        int[] then = {2, 2, 0, 0, 3, 50, 0, 0, 0, 0, 0, 0, 40};
        for (int i = 0; i < then.length; i++) {
            due("told " + i, x.told(i), then[i]);
        }
        due("tight", x.feeling(0, 3), 5);
        due("tired", x.feeling(0, 4), 0);
        due("the first", x.undo(), 0);
        due("nobody", x.told(4), 0);
        due("none", x.undo(), -1);

        promise(9);
        FeltHarness y = told(INN, "", "put 0 0;put 1 1;put 3 2;put 4 3;rest;home;");
        book(y, "0 1;1 1;");
        int[] all = {5, 3, 1, 0, 11, 38, 12, 0, 0, 0, 2, 2, 14};
        for (int i = 0; i < all.length; i++) {
            due("told " + i, y.told(i), all[i]);
        }
        work(y, "drive;drive;");
        due("spilt", y.told(8), 1);
        due("stuck", y.told(9), 0);
        due("through", y.told(7), 1);
        due("behind", y.told(3), 1);
        illegal(y, "told(13)", () -> y.told(13));
        illegal(y, "told(-1)", () -> y.told(-1));
        work(y, "home;home;home;");
        due("refused", y.told(11), 2);
        y.undo();
        due("behind undo", y.told(11), 0);
    }

    // promises 10 to 14

    private static void feelingStageAtForce() {
        promise(10);
        FeltHarness x = told(INN, "", "put 2 3;put 1 0;draw 2 7;drive;");
        int[] two = {20, 9, 3, 4, 5, 1};
        for (int i = 0; i < two.length; i++) {
            due("feeling 2, " + i, x.feeling(2, i), two[i]);
        }
        due("in the stable", x.feeling(4, 2), NONE);
        missing(x, "feeling(5, 0)", () -> x.feeling(5, 0));
        missing(x, "feeling(-1, 9)", () -> x.feeling(-1, 9));
        illegal(x, "feeling(0, 6)", () -> x.feeling(0, 6));
        illegal(x, "feeling(0, -1)", () -> x.feeling(0, -1));

        promise(11);
        FeltHarness y = told(TWO, "", "put 0 0;put 1 1;drive;");
        due("L", y.stage(1, 0), 1);
        due("T", y.stage(1, 1), 9);
        due("behind", y.stage(0, 2), 1);
        due("not behind", y.stage(1, 2), 0);
        missing(y, "stage(2, 0)", () -> y.stage(2, 0));
        missing(y, "stage(-1, 7)", () -> y.stage(-1, 7));
        illegal(y, "stage(0, 3)", () -> y.stage(0, 3));
        illegal(y, "stage(0, -1)", () -> y.stage(0, -1));

        promise(12);
        due("at 0", x.at(0), 1);
        due("at 1", x.at(1), NONE);
        due("at 3", x.at(3), 2);
        illegal(x, "at(4)", () -> x.at(4));
        illegal(x, "at(-1)", () -> x.at(-1));

        promise(13);
        law(x, "place*10+team");
        due("in the team", x.force(2, 0), 2);
        due("not in it", x.force(0, 3), 32);
        law(y, "tight+tired*10+stage+day");
        due("by now", y.force(0, 2), 26);
        missing(x, "force(5, 4)", () -> x.force(5, 4));
        illegal(x, "force(0, 4)", () -> x.force(0, 4));
        illegal(x, "force(0, -1)", () -> x.force(0, -1));
    }

    private static void wouldRanges() {
        promise(14);
        FeltHarness x = told(TWO, "pull+steady+tight+tired+place+stage+team+day-950-950", "");
        due("all at the most", x.would(20, 9, 9, 999, 3, 6, 4, 900), 50);
        due("all at the least", told(TWO, "pull+steady+tight+tired+place+stage+team+day", "")
                .would(1, 0, 0, 0, 0, 0, 0, 0), 1);
        int[] least = {1, 0, 0, 0, 0, 0, 0, 0};
        int[] most = {20, 9, 9, 999, 3, 6, 4, 900};
        for (int i = 0; i < 8; i++) {
            int[] low = most.clone();
            low[i] = least[i] - 1;
            illegal(x, "would, " + i + " too low",
                    () -> x.would(low[0], low[1], low[2], low[3], low[4], low[5], low[6], low[7]));
            int[] high = least.clone();
            high[i] = most[i] + 1;
            illegal(x, "would, " + i + " too high",
                    () -> x.would(high[0], high[1], high[2], high[3], high[4], high[5], high[6], high[7]));
        }
    }

    // promises 15 to 17

    private static void comesJourneyWaits() {
        promise(15);
        FeltHarness x = told("feeling 20 0;stage 60 0;stage 9 9;stage 9 0;bears 30;", "", "");
        due("nobody", x.comes(0), NONE);
        work(x, "put 0 0;");
        due("through", x.comes(0), 2);
        due("spilt", x.comes(1), 1);
        work(x, "draw 0 0;");
        due("stuck", x.comes(0), 0);
        work(x, "draw 0 5;drive;");
        due("behind", x.comes(0), 2);
        missing(x, "comes(3)", () -> x.comes(3));
        missing(x, "comes(-1)", () -> x.comes(-1));

        promise(16);
        FeltHarness y = told(TWO, "", "put 0 0;put 1 1;");
        due("both", y.journey(), 2);
        due("nothing stays changed", y.told(7) + y.told(3) + y.feeling(0, 4), 0);
        work(y, "drive;");
        due("one", y.journey(), 1);
        work(y, "drive;");
        due("all are behind", y.journey(), 0);
        String three = "feeling 1 0;feeling 1 0;stage 60 0;stage 60 0;stage 1 0;";
        FeltHarness z = told(three, "20-tired*5", "put 0 0;put 1 1;");
        due("until they are not", z.journey(), 1);
        due("six", told("feeling 20 0;" + "stage 1 0;".repeat(6) + "bears 40;", "", "put 0 0;").journey(), 6);
        due("nobody", told(three).journey(), 0);

        promise(17);
        due("now", z.waits(), 0);
        work(z, "drive;");
        due("one rest", z.waits(), 1);
        due("nothing stays changed", z.told(2), 0);
        law(z, "(day/99)*60");
        due("99 rests", z.waits(), 99);
        law(z, "(day/100)*60");
        due("more", z.waits(), NONE);
        work(z, "rest;");
        due("99 from day 1", z.waits(), 99);
        for (int i = 0; i < 5; i++) {
            work(z, "again 60[rest;rest;rest;rest;];");
        }
        due("day", z.told(2), 900);
        law(z, "(day/905)*60");
        due("beyond 900", z.waits(), 5);
        work(z, "out 0;out 1;");
        due("nobody", z.waits(), NONE);
        work(y, "");
        due("all are behind", y.waits(), NONE);
        due("no stages", told("feeling 1 0;", "", "put 0 0;").waits(), NONE);
    }

    // promises 18 and 19

    private static void teamStands() {
        promise(18);
        FeltHarness x = told(INN);
        due("strength", x.team(0, 0), 48);
        due("tilt", x.team(0, 1), 2);
        FeltHarness y = told("feeling 5 0;feeling 5 0;feeling 5 0;clash 0 1;stage 30 0;stage 60 9;", "pull+team*3", "put 0 0;");
        due("team of the law", y.team(0, 0), 22);
        due("tilt", y.team(0, 1), 0);
        due("just strong enough", y.team(1, 0), 22);
        work(y, "draw 0 9;");
        law(y, "team*place");
        // At most two go together, and at places 2 and 3 they pull 4 and 6: one less than 11.
        due("place of the law", y.team(0, 0), NONE);
        due("no way", y.team(0, 1), NONE);
        missing(y, "team(2, 2)", () -> y.team(2, 2));
        missing(y, "team(-1, 0)", () -> y.team(-1, 0));
        illegal(y, "team(0, 2)", () -> y.team(0, 2));
        illegal(y, "team(0, -1)", () -> y.team(0, -1));

        promise(19);
        int[] who = {1, 2, 3, NONE};
        for (int p = 0; p < 4; p++) {
            due("stands 0, " + p, x.stands(0, p), who[p]);
            due("no way", y.stands(0, p), NONE);
        }
        FeltHarness z = told("feeling 5 0;feeling 5 0;stage 9 0;");
        int[] first = {0, 1, NONE, NONE};
        for (int p = 0; p < 4; p++) {
            due("the first of alike ones at " + p, z.stands(0, p), first[p]);
        }
        law(z, "place");
        // Places 2 and 3 are the strongest two: 2 and 3.
        int[] last = {NONE, NONE, 0, 1};
        for (int p = 0; p < 4; p++) {
            due("the last places at " + p, z.stands(0, p), last[p]);
        }
        work(z, "put 0 0;draw 1 0;");
        due("behind work", z.stands(0, 2), 0);
        law(z, "tight");
        due("as tight as now", z.team(0, 0), 5);
        z.undo();
        due("behind undo", z.team(0, 0), 10);
        house(z, "feeling 7 0;feeling 7 0;stage 9 0;");
        due("behind house", z.team(0, 0), 24);
        law(z, "9");
        due("behind law", z.team(0, 0), 18);
        law(z, "tight");
        z.image();
        due("ahead of work", z.team(0, 0), 10);
        work(z, "draw 0 9;");
        due("behind work", z.team(0, 0), 14);
        work(z, "draw 0 8;");
        due("behind work", z.team(0, 0), 13);
        z.undo();
        due("behind undo", z.team(0, 0), 14);
        z.restore();
        due("behind restore", z.team(0, 0), 10);
        FeltHarness six = told("feeling 5 0;feeling 5 0;stage 60 0;stage 1 0;stage 1 1;stage 1 2;stage 1 3;stage 27 9;bears 9;");
        due("the last stage", six.team(5, 0), 20);
        due("the last stage", six.team(5, 1), 0);
        due("the last stage", six.stands(5, 1), 1);
        due("the first stage", six.team(0, 0), NONE);
        missing(z, "stands(1, 9)", () -> z.stands(1, 9));
        illegal(z, "stands(0, 4)", () -> z.stands(0, 4));
        illegal(z, "stands(0, -1)", () -> z.stands(0, -1));
    }

    // promises 20 to 22

    private static void stallsAndSwap() {
        promise(20);
        String four = "feeling 1 0;feeling 1 0;feeling 1 0;feeling 1 0;";
        FeltHarness x = told(four + "clash 0 2;clash 2 3;clash 3 1;");
        due("a stall, asked first", told(four + "clash 0 1;").stall(1), 1);
        due("stalls", x.stalls(), 2);
        due("none clash", told(four).stalls(), 1);
        due("no feelings", new FeltHarness().stalls(), 0);
        FeltHarness y = told(four + "clash 1 2;clash 2 3;clash 3 1;");
        due("three", y.stalls(), 3);
        StringBuilder all = new StringBuilder("feeling 1 0;".repeat(8));
        for (int a = 0; a < 8; a++) {
            for (int b = a + 1; b < 8; b++) {
                all.append("clash ").append(a).append(' ').append(b).append(';');
            }
        }
        FeltHarness z = told(all.toString());
        due("all clash", z.stalls(), 8);

        promise(21);
        int[] path = {0, 1, 1, 0};
        int[] ring = {0, 0, 1, 2};
        for (int f = 0; f < 4; f++) {
            due("stall " + f, x.stall(f), path[f]);
            due("stall " + f, y.stall(f), ring[f]);
        }
        due("stall 7", z.stall(7), 7);
        missing(x, "stall(4)", () -> x.stall(4));
        missing(x, "stall(-1)", () -> x.stall(-1));

        promise(22);
        FeltHarness w = told("feeling 10 0;feeling 6 0;feeling 4 0;", "pull", "put 0 0;put 1 2;put 2 1;");
        due("which", w.swap(0), 1);
        due("tilt by it", w.swap(1), 0);
        due("nothing stays changed", w.told(6), 12);
        FeltHarness v = told("feeling 10 0;feeling 6 0;", "pull", "put 0 0;put 1 2;");
        due("with a place that has none", v.swap(0), 1);
        due("tilt by it", v.swap(1), 4);
        due("not less", told("feeling 10 0;feeling 6 0;", "pull", "put 0 0;put 1 1;").swap(0), NONE);
        due("not less", told("feeling 10 0;feeling 6 0;", "pull", "put 0 0;put 1 1;").swap(1), NONE);
        FeltHarness u = told("feeling 10 0;feeling 10 0;", "pull-place", "put 0 0;put 1 3;");
        FeltHarness others = told("feeling 3 0;feeling 5 0;", "pull*place", "put 0 1;put 1 2;");
        due("others", others.swap(0), 12);
        due("tilt by it", others.swap(1), 1);
        due("the first two of alike ones, on one side", u.swap(0), 2);
        due("tilt by it", u.swap(1), 1);
        due("nobody", told(TWO).swap(0), NONE);
        illegal(u, "swap(2)", () -> u.swap(2));
        illegal(u, "swap(-1)", () -> u.swap(-1));
    }

    // promises 23 and 24

    private static void fitsAndLook() {
        promise(23);
        FeltHarness x = told(TWO, "", "put 0 0;put 1 1;drive;drive;home;rest;");
        due("all pairs", x.fits(0), 4);
        due("the first", x.fits(1), 0);
        book(x, "1 9;");
        // 24 against 60 is through with 2 + 1, and 24 against a turn of 9 with 0 + 1 + 3.
        due("one is right", x.fits(0), 1);
        due("the first", x.fits(1), 10);
        book(x, "1 8;");
        due("the long stage", x.fits(1), 0);
        book(x, "0 6;");
        due("none is right", x.fits(0), 0);
        due("none", x.fits(1), NONE);
        FeltHarness y = told(TWO, "", "put 0 2;");
        book(y, "0 0;1 0;");
        due("taken out alone", y.fits(0), 2);
        due("the first", y.fits(1), 0);
        due("nobody", told(TWO).fits(0), 0);
        illegal(x, "fits(2)", () -> x.fits(2));
        illegal(x, "fits(-1)", () -> x.fits(-1));

        promise(24);
        FeltHarness z = told(TWO, "", "put 0 0;put 1 1;drive;drive;home;rest;");
        // How tired 0 is: 5 by two pairs, 8, 9; the same of 1: so two are left, and 0 is the first.
        due("whom", z.look(0), 0);
        due("how many", z.look(1), 2);
        book(z, "0 5;");
        due("whom", z.look(0), 1);
        due("how many", z.look(1), 1);
        book(z, "0 6;");
        due("none is right", z.look(1), 0);
        due("whom", z.look(0), 1);
        book(z, "0 5;1 5;");
        due("all are in lines", z.look(0), NONE);
        due("all are in lines", z.look(1), NONE);
        due("no feelings", new FeltHarness().look(0), NONE);
        FeltHarness w = told("feeling 1 0;feeling 9 0;feeling 9 0;stage 1 0;", "", "put 1 0;put 2 1;");
        due("the first in the stable tells nothing", w.look(0), 1);
        due("how many", w.look(1), 1);
        illegal(w, "look(2)", () -> w.look(2));
        illegal(w, "look(-1)", () -> w.look(-1));
    }

    // promises 25 to 27

    private static void thumbAndSteady() {
        promise(25);
        FeltHarness x = new FeltHarness();
        int[][] due = {{5, 3, 2, 1, 5}, {3, 5, 1, 0, 10}, {0, 0, 4, 0, 0}, {9, 0, 3, 1, 9}, {7, 7, 3, 0, 14},
            {99, 99, 3, 0, 198}, {0, 99, 1, 0, 198}};
        for (int[] row : due) {
            for (int what = 0; what < 3; what++) {
                due("thumb " + row[0] + " " + row[1] + " " + what, x.thumb(row[0], row[1], what), row[2 + what]);
            }
        }
        int[][] bad = {{-1, 0, 0}, {100, 0, 0}, {0, -1, 0}, {0, 100, 0}, {0, 0, -1}, {0, 0, 3}};
        for (int[] row : bad) {
            illegal(x, "thumb " + Arrays.toString(row), () -> x.thumb(row[0], row[1], row[2]));
        }

        promise(26);
        long[][] parts = {{2, 1, 8, 3, 4}, {1, 2, 8, 0, 1}, {0, 0, 0, 1, 1}, {0, 1, 3, 0, 1}, {12, 0, 7, 1, 1},
            {12, 12, 0, 1, 1}, {12, 1, 16, 0, 1}, {12, 13, 0, 0, 1}, {3, 2, 4, 27, 32}, {1, 1, 15, 1, 16},
            {12, 12, 15, 1, 281474976710656L}, {12, 3, 5, 281390298976281L, 281474976710656L}};
        for (long[] row : parts) {
            for (int part = 0; part < 2; part++) {
                due("steady " + Arrays.toString(row), x.steady((int) row[0], (int) row[1], (int) row[2], part), row[3 + part]);
            }
        }
        int[][] out = {{-1, 0, 0, 0}, {13, 0, 0, 0}, {0, -1, 0, 0}, {0, 14, 0, 0}, {0, 0, -1, 0}, {0, 0, 17, 0},
            {0, 0, 0, -1}, {0, 0, 0, 2}};
        for (int[] row : out) {
            illegal(x, "steady " + Arrays.toString(row), () -> x.steady(row[0], row[1], row[2], row[3]));
        }
    }

    private static void oats() {
        promise(27);
        // Tired 2, 4 and 10: by being stuck once, twice and five times.
        FeltHarness x = told("feeling 1 0;feeling 1 0;feeling 1 0;stage 60 0;", "0",
                "put 0 0;put 1 1;put 2 2;drive;out 0;drive;out 1;again 3[drive;];");
        int[][] due = {{0, 7, 16, 2}, {1, 7, 16, 4}, {2, 7, 16, 10}, {2, 7, 15, 9}, {2, 7, 9999, 10}, {0, 7, 5, 1},
            {1, 7, 5, 1}, {2, 7, 5, 1}, {2, 7, 6, 2}, {2, 7, 8, 3}, {0, 7, 9, 2}, {1, 7, 9, 3}, {0, 7, 2, 0},
            {0, 6, 9, 0}, {1, 6, 9, 4}, {2, 6, 9, 5}, {1, 0, 9, 0}, {2, 4, 0, 0}};
        for (int[] row : due) {
            due("oats " + Arrays.toString(row), x.oats(row[0], row[1], row[2]), row[3]);
        }
        missing(x, "oats(3, 99, -1)", () -> x.oats(3, 99, -1));
        missing(x, "oats(-1, 7, 1)", () -> x.oats(-1, 7, 1));
        illegal(x, "oats(0, 8, 1)", () -> x.oats(0, 8, 1));
        illegal(x, "oats(0, -1, 1)", () -> x.oats(0, -1, 1));
        illegal(x, "oats(0, MIN, 1)", () -> x.oats(0, Integer.MIN_VALUE, 1));
        illegal(x, "oats(0, 7, -1)", () -> x.oats(0, 7, -1));
        illegal(x, "oats(0, 6, 10000)", () -> x.oats(0, 6, 10000));
    }

    // promises 28 to 31

    private static void weariestToClashes() {
        FeltHarness x = told(INN, "0", "put 1 0;put 3 1;drive;draw 3 2;draw 1 2;");
        FeltHarness empty = new FeltHarness();
        promise(28);
        due("who", x.weariest(0), 1);
        due("how tired", x.weariest(1), 2);
        due("alike", told(INN).weariest(0), 0);
        due("not tired", told(INN).weariest(1), 0);
        due("none", empty.weariest(0), NONE);
        due("none", empty.weariest(1), NONE);
        illegal(x, "weariest(2)", () -> x.weariest(2));
        illegal(x, "weariest(-1)", () -> x.weariest(-1));

        promise(29);
        due("alike", x.loosest(0), 1);
        due("how tight", x.loosest(1), 2);
        work(x, "draw 3 1;draw 0 0;");
        due("who", x.loosest(0), 3);
        due("how tight", x.loosest(1), 1);
        due("nobody", told(INN).loosest(0), NONE);
        due("nobody", told(INN).loosest(1), NONE);
        illegal(x, "loosest(2)", () -> x.loosest(2));
        illegal(x, "loosest(-1)", () -> x.loosest(-1));

        promise(30);
        due("free", x.willing(2), 5);
        due("taken", x.willing(1), 0);
        due("all", told(INN).willing(3), 31);
        illegal(x, "willing(4)", () -> x.willing(4));
        illegal(x, "willing(-1)", () -> x.willing(-1));

        promise(31);
        due("twos", x.clashes(0), 2);
        due("alike", x.clashes(1), 0);
        FeltHarness y = told("feeling 1 0;feeling 1 0;feeling 1 0;clash 0 2;clash 1 2;");
        due("most", y.clashes(1), 2);
        due("none", told(TWO).clashes(1), NONE);
        due("none", told(TWO).clashes(0), 0);
        illegal(x, "clashes(2)", () -> x.clashes(2));
        illegal(x, "clashes(-1)", () -> x.clashes(-1));
    }

    // promises 32 to 38

    private static void openToLength() {
        promise(32);
        FeltHarness x = told(TWO + "stage 60 9;bears 8;", "", "");
        due("nobody", x.open(), 0);
        work(x, "put 0 0;put 1 1;");
        due("the straight one", x.open(), 1);
        work(x, "drive;");
        due("behind, too", x.open(), 1);
        FeltHarness y = told(TWO, "", "put 0 0;put 1 1;");
        due("both", y.open(), 3);
        due("by one alone", told("feeling 5 0;stage 9 9;stage 9 2;stage 30 0;", "", "put 0 1;").open(), 2);

        promise(33);
        due("none", y.lost(), 0);
        work(y, "draw 0 3;draw 1 4;");
        due("3 tight", y.lost(), 1);
        work(y, "draw 1 0;");
        due("0 tight", y.lost(), 3);
        work(y, "out 0;");
        due("in the team only", y.lost(), 2);

        promise(34);
        FeltHarness z = told("feeling 1 2;feeling 1 2;stage 60 0;", "0", "put 0 0;put 1 1;again 10[drive;];out 1;");
        due("in the team", z.rested(0, 5), 15);
        due("in the stable", z.rested(1, 3), 5);
        due("no rests", z.rested(1, 0), 20);
        due("0 at least", z.rested(1, 99), 0);
        due("0 at least", z.rested(0, 21), 0);
        missing(z, "rested(2, 100)", () -> z.rested(2, 100));
        missing(z, "rested(-1, 1)", () -> z.rested(-1, 1));
        illegal(z, "rested(0, 100)", () -> z.rested(0, 100));
        illegal(z, "rested(0, -1)", () -> z.rested(0, -1));

        promise(35);
        FeltHarness w = told(INN, "pull", "put 0 0;put 1 2;put 3 3;");
        due("near", w.side(0), 18);
        due("off", w.side(1), 5);
        illegal(w, "side(2)", () -> w.side(2));
        illegal(w, "side(-1)", () -> w.side(-1));

        promise(36);
        due("enough", w.needs(0), 0);
        work(w, "out 0;");
        due("not enough", w.needs(1), 8);
        due("just enough", told("feeling 11 0;stage 30 0;", "pull", "put 0 0;").needs(0), 0);
        due("nobody", told(INN).needs(1), 21);
        missing(w, "needs(3)", () -> w.needs(3));
        missing(w, "needs(-1)", () -> w.needs(-1));

        promise(37);
        due("pairs", w.pairs(0), 26);
        due("pairs", w.pairs(1), 29);
        missing(w, "pairs(5)", () -> w.pairs(5));
        missing(w, "pairs(-1)", () -> w.pairs(-1));

        promise(38);
        FeltHarness v = told(TWO, "", "put 0 0;put 1 1;drive;");
        due("behind", v.length(0), 60);
        due("not behind", v.length(1), 1);
        illegal(v, "length(2)", () -> v.length(2));
        illegal(v, "length(-1)", () -> v.length(-1));
    }

    // promises 39 and 40; by seed 1 there are drawn 16838, 5758, 10113, 17515, 31051, 5627, 23010, 7419, 16212, ..

    private static void seasons() {
        promise(39);
        FeltHarness x = told("feeling 20 0;stage 9 0;bears 40;");
        due("1 is below 2", x.season(1, 1, 2, 0), 1);
        due("who", x.season(1, 1, 2, 3), 1);
        due("1 is not below 1", x.season(1, 1, 1, 0), 0);
        due("home", x.season(1, 2, 16, 0), 1);
        due("out", x.season(1, 2, 16, 3), 0);
        due("through once more", x.season(1, 3, 16, 0), 2);
        due("no home", x.season(1, 3, 11, 0), 1);
        due("nothing stays changed", x.told(2) + x.told(7) + x.told(4), 0);
        FeltHarness y = told("feeling 1 0;stage 60 0;", "", "put 0 0;drive;out 0;");
        due("stuck in it", y.season(1, 1, 2, 2), 1);
        due("through in it", y.season(1, 1, 2, 0), 0);
        FeltHarness z = told("feeling 20 0;stage 9 0;", "", "put 0 0;drive;out 0;");
        due("spilt in it", z.season(1, 1, 2, 1), 1);
        due("in the stable", told("feeling 20 0;stage 9 0;", "", "draw 0 3;").season(1, 1, 2, 3), 0);
        due("put to a place taken", told("feeling 9 0;feeling 9 0;", "", "put 1 2;").season(1, 1, 0, 3), 2);
        due("without stages", told("feeling 9 0;").season(1, 1, 16, 3), 1);
        due("without feelings", told("stage 9 0;").season(1, 96, 16, 0), 0);
        int[][] bad = {{0, 0, 0}, {97, 0, 0}, {1, -1, 0}, {1, 17, 0}, {1, 0, -1}, {1, 0, 4}};
        for (int[] row : bad) {
            illegal(x, "season " + Arrays.toString(row), () -> x.season(1, row[0], row[1], row[2]));
        }
        FeltHarness late = told("feeling 20 0;stage 1 0;bears 40;", "day/901", "");
        for (int i = 0; i < 5; i++) {
            work(late, "again 60[rest;rest;rest;rest;];");
        }
        due("beyond 900", late.season(1, 3, 16, 0), 1);

        promise(40);
        int fewest = 999;
        int most = 0;
        int within = 0;
        for (int seed = Integer.MAX_VALUE - 2; seed != Integer.MIN_VALUE + 4; seed++) {
            fewest = Math.min(fewest, x.season(seed, 20, 9, 0));
            most = Math.max(most, x.season(seed, 20, 9, 0));
            within += x.season(seed, 20, 9, 3);
        }
        due("they differ", fewest < most ? 1 : 0, 1);
        due("fewest", x.span(Integer.MAX_VALUE - 2, 7, 20, 9, 0, 0), fewest);
        due("most", x.span(Integer.MAX_VALUE - 2, 7, 20, 9, 1, 0), most);
        due("by how many", x.span(Integer.MAX_VALUE - 2, 7, 20, 9, 2, 0), within);
        due("one seed", x.span(1, 1, 3, 16, 0, 0), 2);
        int[][] out = {{0, 1, 0, 0, 0}, {21, 1, 0, 0, 0}, {1, 0, 0, 0, 0}, {1, 97, 0, 0, 0}, {1, 1, -1, 0, 0},
            {1, 1, 17, 0, 0}, {1, 1, 0, -1, 0}, {1, 1, 0, 3, 0}, {1, 1, 0, 0, 1}, {1, 1, 0, 1, -1}, {1, 1, 0, 2, 1}};
        for (int[] row : out) {
            illegal(x, "span " + Arrays.toString(row), () -> x.span(1, row[0], row[1], row[2], row[3], row[4]));
        }
    }

    // promises 41 to 44

    private static void images() {
        promise(41);
        FeltHarness x = told(TWO, "", "put 0 0;put 1 1;");
        due("one", x.image(), 1);
        work(x, "drive;home;home;");
        due("refused stays", x.told(11), 1);
        due("two", x.image(), 2);
        due("refused stays", x.told(11), 1);
        due("three", x.image(), 3);
        due("no more", x.image(), -1);
        due("images", x.count(0), 3);

        promise(42);
        x.undo();
        x.undo();
        law(x, "9");
        book(x, "0 3;");
        int refusedCalls = x.status(1);
        illegal(x, "told(99)", () -> x.told(99));
        due("two left", x.restore(), 2);
        due("works", x.count(2), 2);
        due("through", x.told(7), 1);
        due("tired", x.feeling(0, 4), 2);
        due("refused is none", x.told(11), 0);
        due("the law stays", x.force(0, 0), 9);
        due("the book stays", x.told(10), 1);
        due("status stays", x.status(1), refusedCalls + 1);
        due("undo", x.undo(), 1);
        due("through", x.told(7), 0);
        work(x, "out 0;out 0;");
        due("one left", x.restore(), 1);
        due("through", x.told(7), 1);
        due("undo", x.undo(), 1);
        due("undo", x.undo(), 0);
        due("nobody", x.told(4), 0);
        due("none left", x.restore(), 0);
        due("who", x.told(4), 3);
        due("through", x.told(7), 0);
        due("works", x.count(2), 1);
        due("there is none", x.restore(), -1);
        due("who", x.told(4), 3);
        FeltHarness y = told(TWO);
        for (int i = 0; i < 16; i++) {
            work(y, "rest;");
        }
        y.image();
        for (int i = 0; i < 16; i++) {
            y.undo();
        }
        work(y, "put 0 0;");
        y.restore();
        due("full again", work(y, "rest;"), -20);
        for (int i = 15; i >= 0; i--) {
            due("undo", y.undo(), i);
            due("day", y.told(2), i);
        }
    }

    private static void statusAndCount() {
        promise(43);
        FeltHarness x = told(TWO);
        missing(x, "stage", () -> x.stage(9, 0));
        illegal(x, "told", () -> x.told(99));
        due("no such", x.status(0), 1);
        due("illegal", x.status(1), 1);
        due("another", x.status(2), NONE);
        due("another", x.status(-1), NONE);
        house(x, TWO);
        due("a new house keeps it", x.status(0) + x.status(1), 2);

        promise(44);
        feed(x, "put 0 0;");
        x.image();
        due("images", x.count(0), 1);
        due("bytes", x.count(1), 20);
        x.work(8);
        due("bytes", x.count(1), 0);
        due("works", x.count(2), 1);
        due("another", x.count(3), NONE);
        due("another", x.count(-1), NONE);
    }
}
