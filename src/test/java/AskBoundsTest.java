import java.math.BigInteger;
import java.util.Arrays;

/** The bounds that the part ==== 3. names: what is asked ahead, and where there is none. */
public final class AskBoundsTest extends Bench {
    private static final String EIGHT = "feeling 9 0;".repeat(8);

    public static void main(String[] args) throws Exception {
        openDocument(args);
        nothingStaysChanged();
        beyondTheLastDay();
        journey();
        waits();
        teamWays();
        teamBest();
        teamOfEachStage();
        stalls();
        swap();
        fits();
        fitsBounds();
        look();
        thumb();
        steady();
        oats();
        seasonParts();
        seasonDrawn();
        seeds();
        finish("by the bounds of what is asked");
    }

    // whatever is asked

    private static void asksOnly(String what, Call call) {
        changesNothing(what, Bench::readyWithTape, call, call.on(readyWithTape()));
    }

    private static void nothingStaysChanged() {
        says("Asked, nothing stays changed");
        for (int what = 0; what <= 12; what++) {
            int w = what;
            asksOnly("told " + w, x -> x.told(w));
        }
        asksOnly("fault", FeltHarness::fault);
        asksOnly("feeling", x -> x.feeling(3, 4));
        asksOnly("stage", x -> x.stage(2, 2));
        asksOnly("at", x -> x.at(3));
        asksOnly("force", x -> x.force(1, 3));
        asksOnly("would", x -> x.would(20, 9, 9, 999, 3, 6, 4, 900));
        asksOnly("comes", x -> x.comes(2));
        asksOnly("journey", FeltHarness::journey);
        asksOnly("waits", FeltHarness::waits);
        asksOnly("team", x -> x.team(1, 0));
        asksOnly("stands", x -> x.stands(1, 0));
        asksOnly("stalls", FeltHarness::stalls);
        asksOnly("stall", x -> x.stall(2));
        asksOnly("swap", x -> x.swap(0));
        asksOnly("fits", x -> x.fits(0));
        asksOnly("look", x -> x.look(0));
        asksOnly("thumb", x -> x.thumb(5, 3, 0));
        asksOnly("steady", x -> x.steady(12, 3, 5, 0));
        asksOnly("oats", x -> x.oats(3, 15, 7));
        asksOnly("weariest", x -> x.weariest(0));
        asksOnly("loosest", x -> x.loosest(0));
        asksOnly("willing", x -> x.willing(1));
        asksOnly("clashes", x -> x.clashes(1));
        asksOnly("open", FeltHarness::open);
        asksOnly("lost", FeltHarness::lost);
        asksOnly("rested", x -> x.rested(3, 99));
        asksOnly("side", x -> x.side(1));
        asksOnly("needs", x -> x.needs(2));
        asksOnly("pairs", x -> x.pairs(0));
        asksOnly("length", x -> x.length(1));
        asksOnly("season", x -> x.season(7, 96, 16, 0));
        asksOnly("span", x -> x.span(7, 20, 96, 16, 2, 3));
        asksOnly("status", x -> x.status(1));
        asksOnly("count", x -> x.count(2));
    }

    private static FeltHarness atDay900(String house, String law, String work) {
        FeltHarness x = told(house, law, work);
        for (int i = 0; i < 5; i++) {
            due("rests", work(x, "again 60[rest;rest;rest;];"), 180);
        }
        due("day", x.told(2), 900);
        due("rest is refused", work(x, "rest;"), 0);
        return x;
    }

    private static void beyondTheLastDay() {
        says("DAYS go by as by rest (beyond 900, too).");
        FeltHarness x = atDay900("feeling 1 0;stage 1 0;bears 40;", "0", "put 0 0;");
        String[] laws = {"day/900*40", "day/901*40", "day/902*40", "day/999*40", "day/1000*40"};
        int[] waits = {0, 1, 2, 99, NONE};
        for (int i = 0; i < laws.length; i++) {
            // 1000 is no number of a law: 999 and 1 are
            law(x, laws[i].replace("1000", "(999+1)"));
            due("waits by " + laws[i], x.waits(), waits[i]);
        }
        law(x, "0");
        work(x, "drive;drive;");
        due("rested beyond", x.rested(0, 3), 1);
        law(x, "day/901*40");
        // It is taken out on the first day of a season, and put on the second.
        due("a season's second day is 901", x.season(1, 2, 16, 0), 1);
        work(x, "out 0;");
        due("a season's first day is 900", x.season(1, 1, 16, 2), 1);
        due("the day is 900 still", x.told(2), 900);
    }

    // journeys and rests

    private static void journey() {
        says("JOURNEY: how many STAGES they are THROUGH, from now on, driving on and on until they are not, or all are behind.");
        String six = "feeling 1 0;" + "stage 1 0;".repeat(6) + "bears 40;";
        due("no feelings, no stages", new FeltHarness().journey(), 0);
        due("no stages", told("feeling 1 0;", "9", "put 0 0;").journey(), 0);
        due("nobody", told(six, "9", "").journey(), 0);
        FeltHarness x = told(six, "9", "put 0 0;");
        for (int left = 6; left >= 0; left--) {
            due("left", x.journey(), left);
            work(x, "drive;");
        }
        due("stuck in the first, whatever comes behind",
                told("feeling 1 0;stage 60 0;stage 1 0;bears 40;", "9", "put 0 0;").journey(), 0);
        String middle = "feeling 1 0;stage 1 0;stage 60 0;stage 1 0;bears 40;";
        due("stuck in the second", told(middle, "20", "put 0 0;").journey(), 1);
        due("just not stuck in it", told(middle, "21", "put 0 0;").journey(), 3);
        String turn = "feeling 1 0;stage 1 0;stage 1 9;stage 1 0;bears 40;";
        due("spilt in the second", told(turn, "32", "put 0 0;").journey(), 1);
        due("just not spilt in it", told(turn, "31", "put 0 0;").journey(), 3);
        due("tired on the way", told(six, "3-tired*2", "put 0 0;").journey(), 2);
        due("the stages behind count", told(six, "4-stage", "put 0 0;").journey(), 4);
    }

    private static void waits() {
        says("WAITS: the number of rests (0 to 99) behind which the next STAGE could be driven so that they are THROUGH, "
                + "nothing else being done; NONE: more, nobody is in the TEAM, or all STAGES are behind.");
        String house = "feeling 1 9;stage 12 0;bears 40;";
        String[] laws = {"5", "day*5", "day/2*5", "day/98*5", "day/99*5", "day/100*5", "0"};
        int[] waits = {0, 1, 2, 98, 99, NONE, NONE};
        for (int i = 0; i < laws.length; i++) {
            due("by " + laws[i], told(house, laws[i], "put 0 0;").waits(), waits[i]);
        }
        FeltHarness x = told(house, "0", "put 0 0;again 52[drive;];");
        law(x, "109-tired");
        due("104 tired, one a day in the team", x.waits(), 0);
        law(x, "10-tired");
        due("99 rests from 104 to 5", x.waits(), 99);
        law(x, "9-tired");
        due("a 100th would be needed", x.waits(), NONE);
        law(x, "41+99-tired");
        due("until it is not spilt there are none", x.waits(), 0);
        law(x, "tired-63");
        due("41 is spilt, 40 is not", x.waits(), 1);
        law(x, "5");
        work(x, "out 0;");
        due("nobody", x.waits(), NONE);
        work(x, "put 0 0;drive;");
        due("all are behind", x.waits(), NONE);
        due("no stages", told("feeling 1 0;", "5", "put 0 0;").waits(), NONE);
        due("a new object", new FeltHarness().waits(), NONE);
        due("the next stage, not the first", told("feeling 1 0;stage 1 0;stage 60 0;bears 40;", "day/7*21+1", "put 0 0;drive;")
                .waits(), 7);
    }

    // the best team

    private static void team(String what, FeltHarness x, int strength, int tilt, int... who) {
        due(what + ", strength", x.team(0, 0), strength);
        due(what + ", tilt", x.team(0, 1), tilt);
        for (int p = 0; p < 4; p++) {
            due(what + " at " + p, x.stands(0, p), who[p]);
        }
    }

    private static void noTeam(String what, FeltHarness x) {
        team(what, x, NONE, NONE, NONE, NONE, NONE, NONE);
    }

    private static void teamWays() {
        says("TEAM of a STAGE: all ways to have in each PLACE one FEELING or none (not none in all), none twice, no two that CLASH");
        noTeam("no feelings", told("stage 1 0;"));
        team("one, not twice", told("feeling 9 0;stage 1 0;", "9", ""), 9, 9, 0, NONE, NONE, NONE);
        team("two", told("feeling 9 0;feeling 9 0;stage 1 0;", "9", ""), 18, 0, 0, 1, NONE, NONE);
        team("two that clash", told("feeling 9 0;feeling 9 0;clash 0 1;stage 1 0;", "9", ""), 9, 9, 0, NONE, NONE, NONE);
        team("four", told(EIGHT + "stage 1 0;", "60", ""), 240, 0, 0, 1, 2, 3);
        team("the last four", told("feeling 1 0;".repeat(4) + "feeling 9 0;".repeat(4) + "stage 1 0;", "pull", ""),
                36, 0, 4, 5, 6, 7);
        StringBuilder all = new StringBuilder("feeling 1 0;".repeat(7) + "feeling 2 0;");
        for (int a = 0; a < 8; a++) {
            for (int b = a + 1; b < 8; b++) {
                all.append("clash").append(a).append(' ').append(b).append(';');
            }
        }
        team("all clash", told(all + "stage 1 0;", "pull", ""), 2, 2, 7, NONE, NONE, NONE);
        says("(whatever TEAM there is; how TIRED and tight all are as now; \"team\" of the LAW as many as these are, "
                + "\"stage\" as now)");
        String clash = "feeling 9 0;feeling 9 0;feeling 9 0;clash 0 1;clash 0 2;stage 1 0;stage 1 0;";
        team("whatever team there is", told(clash, "9", "put 0 3;"), 18, 0, 1, 2, NONE, NONE);
        team("as tight as now", told(clash, "tight", "put 0 3;draw 0 9;draw 1 4;draw 2 4;"), 9, 9, 0, NONE, NONE, NONE);
        FeltHarness tired = told(clash + "bears 40;", "0", "put 1 0;drive;");
        law(tired, "9-tired");
        team("as tired as now", tired, 16, 2, 1, 2, NONE, NONE);
        String four = "feeling 1 0;".repeat(4) + "stage 1 0;bears 40;";
        team("team of the law", told(four, "team*3", "put 0 0;"), 48, 0, 0, 1, 2, 3);
        team("one is better than many", told(four, "9/team/team", ""), 9, 9, 0, NONE, NONE, NONE);
        team("stage as now", told("feeling 9 0;stage 1 0;stage 1 0;bears 40;", "stage+7", "put 0 2;drive;"), 8, 8, 0, NONE, NONE, NONE);
        team("day as now", told("feeling 9 0;stage 1 0;", "day+7", "rest;rest;"), 9, 9, 0, NONE, NONE, NONE);
    }

    private static void teamBest() {
        says("by which they would be THROUGH that STAGE: that of most STRENGTH; of alike ones of least TILT; "
                + "of alike ones the first (by PLACES the least FEELING, none last); NONE: no way.");
        team("just strong enough", told("feeling 1 0;stage 18 0;", "7", ""), 7, 7, 0, NONE, NONE, NONE);
        noTeam("not strong enough", told("feeling 1 0;stage 21 0;", "7", ""));
        team("just borne", told("feeling 1 0;stage 1 5;bears 12;", "7", ""), 7, 7, 0, NONE, NONE, NONE);
        noTeam("not borne", told("feeling 1 0;stage 1 6;bears 12;", "7", ""));
        noTeam("no strength", told("feeling 1 0;stage 1 0;", "0", ""));
        team("less, as it is borne", told("feeling 20 0;feeling 6 0;stage 1 0;bears 6;", "pull", ""), 6, 6, 1, NONE, NONE, NONE);
        team("most strength ahead of least tilt", told("feeling 5 0;feeling 5 0;feeling 1 0;stage 1 0;", "pull", ""),
                11, 1, 0, 1, 2, NONE);
        team("least tilt of alike ones", told("feeling 3 0;feeling 4 0;feeling 7 0;stage 1 0;", "pull", ""),
                14, 0, 0, 2, 1, NONE);
        team("none last", told("feeling 5 0;feeling 5 0;feeling 5 0;stage 1 0;", "pull", ""), 15, 5, 0, 1, 2, NONE);
        team("the least feeling", told("feeling 5 0;".repeat(5) + "clash 0 1;stage 1 0;", "pull", ""), 20, 0, 0, 2, 3, 4);
        team("a later place is stronger", told("feeling 5 0;stage 1 0;", "place", ""), 3, 3, NONE, NONE, NONE, 0);
        team("two later places", told("feeling 5 0;feeling 5 0;stage 1 0;", "place", ""), 5, 1, NONE, NONE, 0, 1);
        FeltHarness behind = told("feeling 9 0;stage 1 0;bears 40;", "9", "put 0 0;drive;");
        team("a stage that is behind", behind, 9, 9, 0, NONE, NONE, NONE);
    }

    private static void teamOfEachStage() {
        says("TEAM of a STAGE");
        // 9 and 3 pull: both are borne up to a turn of 6, and beyond it the lesser one alone.
        String house = "feeling 9 0;feeling 3 0;stage 1 9;stage 1 6;stage 1 7;stage 60 0;stage 1 8;stage 1 5;";
        int[][] due = {{3, 3, 1, NONE}, {12, 6, 0, 1}, {3, 3, 1, NONE}, {NONE, NONE, NONE, NONE}, {3, 3, 1, NONE}, {12, 6, 0, 1}};
        FeltHarness all = told(house, "pull", "");
        for (int s = 5; s >= 0; s--) {
            due("strength in " + s, told(house, "pull", "").team(s, 0), due[s][0]);
            due("tilt in " + s, told(house, "pull", "").team(s, 1), due[s][1]);
            for (int p = 0; p < 4; p++) {
                due("at " + p + " in " + s, told(house, "pull", "").stands(s, p), p < 2 ? due[s][2 + p] : NONE);
                due("at " + p + " in " + s + ", all asked", all.stands(s, p), p < 2 ? due[s][2 + p] : NONE);
            }
            due("tilt in " + s + ", all asked", all.team(s, 1), due[s][1]);
            due("strength in " + s + ", all asked", all.team(s, 0), due[s][0]);
        }
    }

    // stalls and swaps

    private static void stalls(String house, int many, int... which) {
        FeltHarness x = told(house);
        due("stalls of " + house, x.stalls(), many);
        FeltHarness first = told(house);
        for (int f = 0; f < which.length; f++) {
            due("stall of " + f + " in " + house, x.stall(f), which[f]);
            due("asked without stalls: " + f + " in " + house, first.stall(f), which[f]);
        }
    }

    private static void stalls() {
        says("STALLS: the least number of stalls into which all FEELINGS can be put so that none CLASH in one; "
                + "of all ways by so many the first (by numbers of FEELINGS the least stall).");
        stalls("", 0);
        stalls("stage 1 0;", 0);
        stalls("feeling 1 0;", 1, 0);
        stalls(EIGHT, 1, 0, 0, 0, 0, 0, 0, 0, 0);
        stalls(EIGHT + "clash 0 7;", 2, 0, 0, 0, 0, 0, 0, 0, 1);
        stalls("feeling 9 0;".repeat(4) + "clash 0 3;clash 3 2;clash 2 1;", 2, 0, 1, 0, 1);
        stalls("feeling 9 0;".repeat(4) + "clash 1 2;clash 2 3;clash 3 1;", 3, 0, 0, 1, 2);
        stalls("feeling 9 0;".repeat(5) + "clash 0 1;clash 1 2;clash 2 3;clash 3 4;clash 4 0;", 3, 0, 1, 0, 1, 2);
        StringBuilder all = new StringBuilder(EIGHT);
        StringBuilder butOne = new StringBuilder(EIGHT);
        for (int a = 0; a < 8; a++) {
            for (int b = a + 1; b < 8; b++) {
                String clash = "clash" + a + " " + b + ";";
                all.append(clash);
                butOne.append(a == 2 && b == 6 ? "" : clash);
            }
        }
        stalls(all.toString(), 8, 0, 1, 2, 3, 4, 5, 6, 7);
        stalls(butOne.toString(), 7, 0, 1, 2, 3, 4, 5, 2, 6);
    }

    private static void swap(String what, FeltHarness x, int which, int tilt) {
        due(what + ", which", x.swap(0), which);
        due(what + ", tilt", x.swap(1), tilt);
    }

    private static void swap() {
        says("SWAP: of all twos of PLACES those two that, did they change what they have (a FEELING or none), would make TILT least; "
                + "of alike ones the first two (the lesser PLACE first); NONE: by none it would be less than it is.");
        String two = "feeling 4 0;feeling 6 0;";
        swap("a new object", new FeltHarness(), NONE, NONE);
        swap("nobody", told(two, "pull", ""), NONE, NONE);
        swap("tilt is 0", told("feeling 4 0;feeling 4 0;", "pull", "put 0 0;put 1 1;"), NONE, NONE);
        swap("tilt is 0 by no force", told(two, "0", "put 0 0;put 1 2;"), NONE, NONE);
        swap("not less, but alike", told(two, "pull", "put 0 0;"), NONE, NONE);
        swap("who is in the stable is in no place", told(two, "pull", "put 1 0;"), NONE, NONE);
        swap("nor does it hide a swap", told("feeling 1 0;feeling 6 0;", "pull-place", "put 1 0;"), 3, 3);
        swap("not less, but more", told(two, "pull+place", "put 0 0;"), NONE, NONE);
        swap("less by one", told(two, "9-place/3", "put 0 0;"), 3, 8);
        swap("least of three", told(two, "9-place", "put 0 0;"), 3, 6);
        swap("with none", told(two, "pull", "put 0 0;put 1 2;"), 1, 2);
        swap("the first of alike ones", told(two, "pull", "put 0 1;put 1 3;"), 1, 2);
        swap("the last two places", told(two, "pull*place", "put 0 2;put 1 3;"), 23, 0);
        swap("on one side", told(two, "pull*place", "put 0 1;put 1 3;"), 3, 4);
        FeltHarness four = told("feeling 9 0;feeling 1 0;feeling 8 0;feeling 2 0;", "pull", "put 0 0;put 1 1;put 2 2;put 3 3;");
        due("tilt", four.told(6), 14);
        swap("four", four, 3, 0);
    }

    // the book

    private static void fits(String what, FeltHarness x, String book, int many, int first) {
        if (!book.isEmpty()) {
            due("book " + book, book(x, book) > 0 ? 1 : 0, 1);
        }
        due(what + ", how many", x.fits(0), many);
        due(what + ", the first", x.fits(1), first);
    }

    private static void fits() {
        says("FITS by BOOK: pairs of a STAGE and a FEELING that is in the TEAM by which, had that one been taken out (as by out), "
                + "and the others driven that STAGE now as by drive (behind or not; are there no others: it is taken out alone, "
                + "and all stay as TIRED as they are), all lines were right: how many, the first (10 times the STAGE, and the FEELING).");
        fits("a new object", new FeltHarness(), "", 0, NONE);
        fits("nobody", told(EIGHT + "stage 1 0;"), "", 0, NONE);
        fits("no stages", told(EIGHT, "9", "put 0 0;put 1 1;"), "", 0, NONE);
        String six = EIGHT + "stage 1 0;".repeat(5) + "stage 60 0;";
        FeltHarness x = told(six, "10", "put 4 0;put 5 1;put 6 2;put 7 3;");
        fits("no lines", x, "", 24, 4);
        fits("the very last pair", x, "4 3;5 3;6 3;7 0;", 1, 57);
        fits("the one ahead of it", x, "4 3;5 3;6 0;7 3;", 1, 56);
        fits("one of each easy stage", x, "4 0;5 1;", 5, 4);
        fits("by the last feeling alone", x, "7 3;", 3, 54);
        fits("by the last feeling alone", x, "7 0;", 6, 7);
        fits("one in the stable that is not tired", x, "0 0;", 24, 4);
        fits("one in the stable that is", x, "0 1;", 0, NONE);
        fits("none", x, "4 4;", 0, NONE);
        FeltHarness alone = told("feeling 9 0;feeling 9 0;stage 60 0;stage 1 0;", "0", "put 0 0;drive;drive;");
        fits("taken out alone, as tired as it is", alone, "0 4;1 0;", 2, 0);
        fits("taken out alone, not more tired", alone, "0 6;", 0, NONE);
        FeltHarness behind = told("feeling 9 0;feeling 9 0;stage 1 0;stage 60 0;", "20", "put 0 0;put 1 1;drive;drive;");
        due("all are behind", behind.told(3), 2);
        fits("behind or not", behind, "", 4, 0);
        fits("the same, at nothing more", alone, "1 1;", 0, NONE);
    }

    private static void fitsBounds() {
        says("(behind or not; are there no others: it is taken out alone, and all stay as TIRED as they are)");
        // The other one by itself, with a force of 20: stuck in none, through the first, spilt in the second.
        FeltHarness x = told("feeling 9 0;feeling 9 0;stage 1 0;stage 1 9;bears 20;", "20", "put 0 0;put 1 1;");
        fits("through", x, "0 0;1 1;", 1, 0);
        fits("spilt", x, "0 0;1 5;", 1, 10);
        FeltHarness y = told("feeling 9 0;feeling 9 0;stage 60 0;bears 20;", "20", "put 0 0;put 1 1;");
        fits("stuck", y, "0 0;1 2;", 1, 0);
        fits("the other one", y, "0 2;1 0;", 1, 1);
        FeltHarness team = told("feeling 9 0;feeling 9 0;feeling 9 0;stage 60 0;bears 40;", "30/team", "put 0 0;put 1 1;put 2 2;");
        // Two are left, of 15 each: 30 against 60 is 2 and 1 more.
        fits("the team is one less", team, "0 0;1 3;2 3;", 1, 0);
        FeltHarness most = told("feeling 1 0;feeling 1 0;stage 60 0;", "0", "put 0 0;put 1 1;");
        for (int i = 0; i < 5; i++) {
            work(most, "again 60[drive;drive;];");
        }
        due("tired", most.feeling(0, 4), 999);
        fits("999 at most", most, "0 999;1 999;", 2, 0);
    }

    private static void look(String what, FeltHarness x, String book, int whom, int left) {
        if (!book.isEmpty()) {
            due("book " + book, book(x, book) > 0 ? 1 : 0, 1);
        }
        due(what + ", whom", x.look(0), whom);
        due(what + ", how many", x.look(1), left);
    }

    private static void look() {
        says("LOOK: the FEELING in no line by which, however TIRED it was then, fewest such pairs are left at the worst "
                + "(0, if none is right), of these the first.");
        look("a new object", new FeltHarness(), "", NONE, NONE);
        String two = "feeling 9 0;feeling 9 0;stage 60 0;stage 1 0;bears 40;";
        FeltHarness x = told(two, "30", "put 0 0;put 1 1;");
        // By the first stage the other one is 3 tired, by the second 1: 0 of each by two pairs.
        look("the first of alike ones", x, "", 0, 2);
        look("the one in no line", x, "0 0;", 1, 1);
        look("none is right", x, "0 7;", 1, 0);
        look("none is right, and the first is free", x, "1 7;", 0, 0);
        look("all are in lines", x, "0 0;1 3;", NONE, NONE);
        look("all are in lines, and none is right", x, "0 7;1 7;", NONE, NONE);
        look("nobody in the team: none is right", told(two), "", 0, 0);
        look("no stages: none is right", told(EIGHT, "9", "put 0 0;"), "0 0;", 1, 0);
        FeltHarness stable = told("feeling 9 0;".repeat(3) + "stage 60 0;stage 1 0;bears 40;", "30", "put 1 0;put 2 1;");
        look("who is in the stable tells nothing", stable, "", 1, 2);
        look("all pairs are left by it", stable, "1 0;2 3;", 0, 1);
        FeltHarness eight = told(EIGHT + "stage 60 0;stage 1 0;bears 40;", "30", "put 6 0;put 7 1;");
        look("the last but one tells more than who is in the stable", eight, "", 6, 2);
        look("the last", eight, "6 0;", 7, 1);
        look("all but the last", eight, "0 0;1 0;2 0;3 0;4 0;5 0;6 0;", 7, 1);
        look("all but the last but one", eight, "0 0;1 0;2 0;3 0;4 0;5 0;7 0;", 6, 1);
        // All 24 pairs: it is out by 6, driven the long stage by 3, and one of the five short ones by 15, the last pair among them.
        FeltHarness pairs = told(EIGHT + "stage 60 0;" + "stage 1 0;".repeat(5), "10", "put 4 0;put 5 1;put 6 2;put 7 3;");
        look("all pairs there can be", pairs, "", 4, 15);
        FeltHarness three = told("feeling 9 0;".repeat(3) + "stage 1 0;stage 1 0;", "6", "put 0 0;put 1 1;put 2 2;");
        look("each is out by two pairs, and driven by four", three, "", 0, 4);
        look("all", eight, "0 0;1 0;2 0;3 0;4 0;5 0;6 0;7 1;", NONE, NONE);
    }

    // ostler and thumb, habit, oats

    private static void thumb() {
        says("THUMB by v, w: each of two holds or lets go: both hold: each has w; one lets go: it has v, the other one 0; "
                + "both let go: each has 0 less w; RESTS: neither would have more by the other thing.");
        // v, w, how many, the first, what both have
        int[][] rows = {{0, 0, 4, 0, 0}, {1, 0, 3, 1, 1}, {0, 1, 1, 0, 2}, {1, 1, 3, 0, 2}, {2, 1, 2, 1, 2}, {1, 2, 1, 0, 4},
            {99, 0, 3, 1, 99}, {0, 99, 1, 0, 198}, {99, 99, 3, 0, 198}, {99, 98, 2, 1, 99}, {98, 99, 1, 0, 198}};
        FeltHarness x = new FeltHarness();
        for (int[] row : rows) {
            for (int what = 0; what < 3; what++) {
                due("thumb " + Arrays.toString(row) + " " + what, x.thumb(row[0], row[1], what), row[2 + what]);
            }
        }
    }

    private static void steady() {
        says("STEADY of n, k, q: of n wets each makes it shy by q of 16, each by itself: how likely it does not shy at k or more.");
        long all = 281474976710656L;
        long[][] rows = {{0, 0, 0, 1, 1}, {0, 0, 16, 1, 1}, {0, 1, 0, 0, 1}, {0, 13, 16, 0, 1}, {1, 0, 16, 1, 1}, {1, 1, 0, 1, 1},
            {1, 1, 16, 0, 1}, {1, 1, 1, 15, 16}, {1, 1, 15, 1, 16}, {1, 1, 8, 1, 2}, {1, 2, 0, 0, 1}, {12, 0, 16, 1, 1},
            {12, 12, 0, 1, 1}, {12, 12, 16, 0, 1}, {12, 13, 0, 0, 1}, {12, 12, 15, 1, all}, {12, 1, 15, 151728638820031L, all},
            {12, 1, 16, 0, 1}, {2, 1, 8, 3, 4}, {2, 2, 4, 9, 16}, {4, 2, 8, 11, 16}, {11, 12, 0, 0, 1}, {11, 11, 8, 1, 2048}};
        FeltHarness x = new FeltHarness();
        for (long[] row : rows) {
            for (int part = 0; part < 2; part++) {
                due("steady " + Arrays.toString(row) + " " + part,
                        x.steady((int) row[0], (int) row[1], (int) row[2], part), row[3 + part]);
            }
        }
        for (int n = 0; n <= 12; n++) {
            steadyOf(new FeltHarness(), n);
        }
    }

    private static void steadyOf(FeltHarness x, int n) {
        for (int k = 0; k <= 13; k++) {
            for (int q = 0; q <= 16; q++) {
                BigInteger[] due = likely(n, k, q);
                String what = "steady " + n + " " + k + " " + q;
                due(what + ", above", x.steady(n, k, q, 0), due[0].longValueExact());
                due(what + ", below", x.steady(n, k, q, 1), due[1].longValueExact());
            }
        }
    }

    /** Shy by shy: how many of 16 to the n ways have k or more at which it does not. */
    private static BigInteger[] likely(int n, int k, int q) {
        BigInteger[] ways = new BigInteger[n + 2];
        Arrays.fill(ways, BigInteger.ZERO);
        ways[0] = BigInteger.ONE;
        for (int i = 0; i < n; i++) {
            for (int calm = n; calm >= 0; calm--) {
                BigInteger shies = ways[calm].multiply(BigInteger.valueOf(q));
                BigInteger stays = calm == 0 ? BigInteger.ZERO : ways[calm - 1].multiply(BigInteger.valueOf(16 - q));
                ways[calm] = shies.add(stays);
            }
        }
        BigInteger above = BigInteger.ZERO;
        for (int calm = k; calm <= n; calm++) {
            above = above.add(ways[calm]);
        }
        BigInteger below = BigInteger.valueOf(16).pow(n);
        BigInteger both = above.gcd(below);
        return new BigInteger[] {above.divide(both), below.divide(both)};
    }

    private static void oats() {
        says("OATS of n among told FEELINGS (bits) by how TIRED they are: levelled: no more than that each, no more than a bound, "
                + "the greatest by which no more than n are given (all, if they are no more).");
        // Tired 2, 4, 10 and not at all.
        FeltHarness x = told("feeling 1 0;".repeat(4) + "stage 60 0;", "0",
                "put 0 0;put 1 1;put 2 2;drive;out 0;drive;out 1;again 3[drive;];");
        int[][] rows = {{0, 15, 0, 0}, {2, 15, 2, 0}, {2, 15, 3, 1}, {0, 15, 5, 1}, {0, 15, 6, 2}, {2, 15, 6, 2}, {2, 15, 7, 2},
            {1, 15, 8, 3}, {2, 15, 9, 3}, {1, 15, 10, 4}, {2, 15, 10, 4}, {2, 15, 11, 5}, {2, 15, 15, 9}, {2, 15, 16, 10},
            {2, 15, 17, 10}, {1, 15, 16, 4}, {0, 15, 9999, 2}, {3, 15, 9999, 0}, {2, 4, 9, 9}, {2, 4, 10, 10}, {2, 4, 11, 10},
            {2, 6, 8, 4}, {2, 6, 7, 3}, {3, 8, 5, 0}, {0, 14, 9999, 0}, {2, 0, 9999, 0}};
        for (int[] row : rows) {
            due("oats " + Arrays.toString(row), x.oats(row[0], row[1], row[2]), row[3]);
        }
        FeltHarness y = told(EIGHT + "stage 60 0;", "0", "put 7 0;put 6 1;");
        for (int i = 0; i < 5; i++) {
            work(y, "again 60[drive;drive;];");
        }
        due("tired", y.feeling(7, 4), 999);
        int[][] full = {{7, 128, 998, 998}, {7, 128, 999, 999}, {7, 128, 1000, 999}, {7, 255, 1996, 998}, {7, 255, 1997, 998},
            {6, 255, 1998, 999}, {6, 255, 9999, 999}, {0, 255, 9999, 0}};
        for (int[] row : full) {
            due("oats " + Arrays.toString(row), y.oats(row[0], row[1], row[2]), row[3]);
        }
    }

    // seasons

    private static long step(long seed) {
        return BigInteger.valueOf(seed).multiply(BigInteger.valueOf(1103515245L)).add(BigInteger.valueOf(12345))
                .mod(BigInteger.ONE.shiftLeft(32)).longValueExact();
    }

    /** What is DRAWN as the n-th from a seed on, by many. */
    private static int drawn(int seed, int n, int by) {
        long now = Integer.toUnsignedLong(seed);
        for (int i = 0; i < n; i++) {
            now = step(now);
        }
        return (int) (now / 65536 % 32768 % by);
    }

    private static void seasonParts() {
        says("A SEASON by a SEED: for so many DAYS: are there FEELINGS: DRAWN by how many FEELINGS, F: is F in the TEAM: out, "
                + "else DRAWN by 4: put to that PLACE (if it can be done)");
        for (int seed = -8; seed <= 8; seed++) {
            FeltHarness x = told(EIGHT);
            int f = drawn(seed, 1, 8);
            int place = drawn(seed, 2, 4);
            due("put by " + seed, x.season(seed, 1, 0, 3), 1 << f);
            int other = (f + 1) % 8;
            work(x, "put " + other + " " + place + ";");
            due("the place is taken by " + seed, x.season(seed, 1, 0, 3), 1 << other);
            work(x, "out " + other + ";put " + other + " " + (place + 1) % 4 + ";");
            due("another place is taken by " + seed, x.season(seed, 1, 0, 3), 1 << other | 1 << f);
            work(x, "out " + other + ";put " + f + " " + place + ";");
            due("out by " + seed, x.season(seed, 1, 0, 3), 0);
            FeltHarness clash = told(EIGHT + "clash " + f + " " + other + ";", "", "put " + other + " " + (place + 1) % 4 + ";");
            due("one clashes by " + seed, clash.season(seed, 1, 0, 3), 1 << other);
        }
        says("then (with FEELINGS or without) is DRAWN by 16 below Q: are all STAGES behind (without STAGES they are), "
                + "home (if it can be done), else drive (if it can be done); then rest.");
        FeltHarness none = new FeltHarness();
        FeltHarness stages = told("stage 1 0;");
        FeltHarness feelings = told("feeling 1 0;", "9", "");
        for (int what = 0; what < 4; what++) {
            due("neither feelings nor stages, " + what, none.season(5, 96, 16, what), 0);
            due("without feelings, " + what, stages.season(5, 96, 16, what), 0);
        }
        for (int what = 0; what < 3; what++) {
            due("without stages, " + what, feelings.season(5, 96, 16, what), 0);
        }
    }

    private static void seasonDrawn() {
        says("is DRAWN by 16 below Q");
        for (int seed : new int[] {0, 1, -1, Integer.MAX_VALUE, Integer.MIN_VALUE, 123456789, -987654321}) {
            FeltHarness x = told("feeling 1 0;stage 1 0;bears 40;", "9", "");
            int d = drawn(seed, 3, 16);
            due("not below, by " + seed, x.season(seed, 1, d, 0), 0);
            due("below, by " + seed, x.season(seed, 1, d + 1, 0), 1);
            due("0: never", x.season(seed, 96, 0, 0), 0);
            due("16: each day", x.season(seed, 1, 16, 0), 1);
            // On the second day it is out: DRAWN are the FEELING, then the one by 16.
            FeltHarness y = told("feeling 1 0;stage 1 0;stage 1 0;bears 40;", "9", "put 0 0;");
            due("out on the first day, put on the second", y.season(seed, 2, 16, 3), 1);
            due("one drive, by two days", y.season(seed, 2, 16, 0), 1);
            int second = drawn(seed, 5, 16);
            due("not below on the second day", y.season(seed, 2, second, 0), 0);
            due("below on the second day", y.season(seed, 2, second + 1, 0), 1);
            FeltHarness home = told("feeling 1 0;stage 1 0;bears 40;", "9", "put 0 0;drive;out 0;");
            due("all are behind: home, by no drive", home.season(seed, 1, 16, 0), 0);
            FeltHarness loose = told("feeling 1 0;stage 1 0;bears 1;", "9", "draw 0 3;");
            due("spilt, and in the stable", loose.season(seed, 1, 16, 1) * 10 + loose.season(seed, 1, 16, 3), 10);
            FeltHarness again = told("feeling 1 0;stage 1 0;bears 1;", "9", "draw 0 9;put 0 0;drive;out 0;");
            due("spilt in it, not ahead of it", again.season(seed, 1, 16, 1), 1);
            FeltHarness before = told("feeling 1 0;stage 1 0;bears 40;", "9", "put 0 0;drive;home;drive;home;out 0;");
            due("through in it, not ahead of it", before.season(seed, 1, 16, 0), 1);
            homeInSeason(seed);
            FeltHarness weak = told("feeling 1 0;stage 60 0;", "9", "put 0 0;drive;out 0;");
            due("stuck in it, not ahead of it", weak.season(seed, 1, 16, 2), 1);
        }
    }

    /** One feeling is put on each odd day of a season and taken out on each even one, by whatever seed. */
    private static void homeInSeason(int seed) {
        FeltHarness one = told("feeling 1 0;stage 1 0;bears 40;", "9", "");
        int[] throughOne = {1, 1, 2, 2, 3};
        FeltHarness two = told("feeling 1 0;stage 1 0;stage 1 0;bears 40;", "9", "");
        int[] throughTwo = {1, 1, 2, 2, 3};
        FeltHarness late = told("feeling 1 0;stage 1 0;bears 40;", "9", "put 0 0;drive;out 0;");
        int[] throughLate = {0, 0, 1, 1, 2};
        for (int days = 1; days <= 5; days++) {
            due("one stage, " + days + " days", one.season(seed, days, 16, 0), throughOne[days - 1]);
            due("two stages, " + days + " days", two.season(seed, days, 16, 0), throughTwo[days - 1]);
            due("all behind at first, " + days + " days", late.season(seed, days, 16, 0), throughLate[days - 1]);
        }
    }

    private static void seeds() {
        says("What is DRAWN: the SEED (32 bits) becomes itself times 1,103,515,245, and 12,345 (it wraps); its bits 16 to 30, "
                + "what is left of them.");
        due("seed 1", drawn(1, 1, 32768), 16838);
        int[] seeds = {0, 1, 2, -1, -2, Integer.MAX_VALUE, Integer.MIN_VALUE, Integer.MIN_VALUE + 1, 1 << 30, 1 << 16, 65535, -65536};
        for (int seed : seeds) {
            // 7 and 5 feelings: what is left of 15 bits differs from what is left of 16 bits
            for (int many = 1; many <= 8; many++) {
                FeltHarness x = told("feeling 9 0;".repeat(many));
                due("the first drawn of " + many + " by " + seed, x.season(seed, 1, 0, 3), 1 << drawn(seed, 1, many));
            }
        }
        says("Of so many SEEDS (1 to 20; seed, seed and 1, ..)");
        FeltHarness x = told(EIGHT);
        for (int start : new int[] {-3, 0, Integer.MAX_VALUE - 5, Integer.MAX_VALUE, Integer.MIN_VALUE}) {
            for (int many : new int[] {1, 2, 20}) {
                int[] in = new int[8];
                for (int i = 0; i < many; i++) {
                    in[drawn(start + i, 1, 8)]++;
                }
                for (int f = 0; f < 8; f++) {
                    due("span from " + start + " of " + many + " with " + f, x.span(start, many, 1, 0, 2, f), in[f]);
                }
            }
        }
    }
}
