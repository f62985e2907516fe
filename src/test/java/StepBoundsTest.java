/** The bounds that the part ==== 2. names: STEPS that are done and STEPS that are REFUSED, and how far each goes. */
public final class StepBoundsTest extends Bench {
    private static final String ONE = "feeling 20 0;stage 60 0;stage 1 0;bears 40;";
    private static final String FOUR = "feeling 10 2;feeling 8 0;feeling 20 9;feeling 5 3;clash 0 2;stage 30 3;stage 9 0;";
    private static final String RESTS_180 = "again 60[rest;rest;rest;];";

    public static void main(String[] args) throws Exception {
        openDocument(args);
        first();
        places();
        strengthAndTilt();
        inOrder();
        twoHundred();
        put();
        out();
        draw();
        home();
        rest();
        restTired();
        driveRefused();
        asItIsAhead();
        stuck();
        spilt();
        buckles();
        through();
        mostTired();
        finish("by the bounds of the steps");
    }

    private static void done(FeltHarness x, String step) {
        due(step, work(x, step), 1);
        due("refused by " + step, x.told(11), 0);
    }

    private static void refusedStep(FeltHarness x, String step) {
        String before = workedOn(x);
        due(step, work(x, step), 0);
        due("refused by " + step, x.told(11), 1);
        dueText("all behind " + step, workedOn(x), before);
    }

    private static void driveOften(FeltHarness x, int many) {
        int left = many;
        while (left > 0) {
            int threes = Math.min(60, left / 3);
            if (threes > 0) {
                due("threes", work(x, "again " + threes + "[drive;drive;drive;];"), 3 * threes);
                left -= 3 * threes;
            } else {
                due("one", work(x, "drive;"), 1);
                left--;
            }
        }
    }

    private static FeltHarness atDay(int day, String house) {
        FeltHarness x = told(house);
        for (int d = 0; d < day; d += 180) {
            int rests = Math.min(180, day - d);
            due("rests", work(x, rests == 180 ? RESTS_180 : "again " + rests / 3 + "[rest;rest;rest;];"
                    + "rest;".repeat(rests % 3)), rests);
        }
        due("day", x.told(2), day);
        return x;
    }

    private static void first() {
        says("It is DAY 0 at first; all FEELINGS are in the stable, no STAGE is behind, buckles are 5 tight, nobody is TIRED.");
        FeltHarness x = told("feeling 20 9;".repeat(8) + "stage 1 0;".repeat(6));
        due("day", x.told(2), 0);
        due("behind", x.told(3), 0);
        due("team", x.told(4), 0);
        for (int f = 0; f < 8; f++) {
            due("place of " + f, x.feeling(f, 2), NONE);
            due("tight " + f, x.feeling(f, 3), 5);
            due("tired " + f, x.feeling(f, 4), 0);
        }
        for (int s = 0; s < 6; s++) {
            due("behind " + s, x.stage(s, 2), 0);
        }
        for (int p = 0; p < 4; p++) {
            due("at " + p, x.at(p), NONE);
        }
    }

    private static void places() {
        says("PLACES: 0, 2 NEAR, 1, 3 OFF; in one there is one FEELING at the most; the TEAM is who has a PLACE.");
        String house = "feeling 9 0;".repeat(8);
        for (int p = 0; p < 4; p++) {
            FeltHarness x = told(house, "7", "put 7 " + p + ";put 6 " + p + ";");
            due("one at " + p, x.at(p), 7);
            due("the other has no place", x.feeling(6, 2), NONE);
            due("team", x.told(4), 128);
            due("near", x.side(0), p % 2 == 0 ? 7 : 0);
            due("off", x.side(1), p % 2 == 0 ? 0 : 7);
        }
        FeltHarness full = told(house, "7", "put 0 0;put 1 1;put 2 2;put 3 3;");
        due("four", full.told(4), 15);
        for (int p = 0; p < 4; p++) {
            refusedStep(full, "put 4 " + p + ";");
        }
    }

    private static void strengthAndTilt() {
        says("STRENGTH: FORCES of all in the TEAM together.");
        FeltHarness x = told("feeling 9 0;".repeat(4), "60", "");
        due("of nobody", x.told(5), 0);
        for (int f = 0; f < 4; f++) {
            work(x, "put " + f + " " + f + ";");
            due("of " + (f + 1), x.told(5), 60 * (f + 1));
        }
        says("TILT: by how much those on one side are more than those on the other one.");
        FeltHarness y = told("feeling 10 0;feeling 6 0;feeling 4 0;", "pull", "");
        due("of nobody", y.told(6), 0);
        work(y, "put 0 0;");
        due("near alone", y.told(6), 10);
        work(y, "put 1 1;");
        due("near is more", y.told(6), 4);
        work(y, "put 2 3;");
        due("alike", y.told(6), 0);
        work(y, "out 0;");
        due("off alone", y.told(6), 10);
    }

    private static void inOrder() {
        says("STEPS are done in order; one that can't be done is REFUSED, and changes nothing");
        FeltHarness x = told(FOUR, "20", "put 0 0;out 0;put 0 1;home;rest;out 1;put 2 2;draw 0 5;put 3 1;");
        FeltHarness twin = told(FOUR, "20", "put 0 0;out 0;put 0 1;rest;");
        dueText("all behind the refused ones", workedOn(x), workedOn(twin));
        due("refused", x.told(11), 5);
        due("refused in the twin", twin.told(11), 0);
        due("out ahead of put", work(told(FOUR), "out 0;put 0 0;"), 1);
        due("put ahead of out", work(told(FOUR), "put 0 0;out 0;"), 2);
    }

    private static void twoHundred() {
        says("200 STEPS at most are begun by one WORK (an again, too, each time it is come to; REFUSED ones, too), "
                + "what would come behind is left out.");
        due("the 200th", work(told(ONE), RESTS_180 + "rest;".repeat(18) + "put 0 0;"), 199);
        FeltHarness x = told(ONE);
        due("the 201st", work(x, RESTS_180 + "rest;".repeat(19) + "put 0 0;"), 199);
        due("is left out", x.told(4), 0);
        due("and not refused", x.told(11), 0);
        due("199 rests were done", x.told(2), 199);
        String agains = "again 60[again 1[];again 0[];again 0[rest;];];";
        due("agains, the 200th", work(told(ONE), agains + "rest;".repeat(18) + "put 0 0;"), 19);
        due("agains, the 201st", work(told(ONE), agains + "rest;".repeat(19) + "put 0 0;"), 19);
        String refusals = "again 60[home;out 0;drive;];";
        FeltHarness y = told(ONE);
        due("refusals, the 200th", work(y, refusals + "rest;".repeat(18) + "put 0 0;"), 19);
        due("refused", y.told(11), 180);
        y = told(ONE);
        due("refusals, the 201st", work(y, refusals + "rest;".repeat(19) + "home;"), 19);
        due("what is left out is not refused", y.told(11), 180);
        due("an again as the 200th", work(told(ONE), RESTS_180 + "rest;".repeat(18) + "again 2[rest;];"), 198);
        due("an again as the 199th", work(told(ONE), RESTS_180 + "rest;".repeat(17) + "again 2[rest;];"), 198);
        due("an again as the 198th", work(told(ONE), RESTS_180 + "rest;".repeat(16) + "again 2[rest;];rest;"), 198);
        // One outer again, four inner ones, and the rests of three and a part of them.
        due("all inner ones", work(told(ONE), "again 60[again 60[rest;];];"), 195);
        due("agains alone", work(told(ONE), "again 60[again 60[again 60[];];];"), 0);
        due("the next work begins anew", work(x, RESTS_180), 180);
    }

    private static void put() {
        says("put: F is at PLACE P (REFUSED, if it has a PLACE, P is taken, or one in the TEAM CLASHES with it).");
        for (int p = 0; p < 4; p++) {
            FeltHarness x = told(FOUR);
            done(x, "put 1 " + p + ";");
            due("its place", x.feeling(1, 2), p);
            due("who is there", x.at(p), 1);
            refusedStep(x, "put 1 " + p + ";");
            refusedStep(x, "put 1 " + (p + 1) % 4 + ";");
            refusedStep(x, "put 3 " + p + ";");
            done(x, "put 3 " + (p + 1) % 4 + ";");
        }
        FeltHarness y = told(FOUR);
        done(y, "put 2 0;");
        refusedStep(y, "put 0 1;");
        refusedStep(y, "put 0 0;");
        done(y, "put 1 1;");
        done(y, "out 2;");
        done(y, "put 0 0;");
        refusedStep(y, "put 2 3;");
    }

    private static void out() {
        says("out: F is in the stable (REFUSED, if it has no PLACE).");
        FeltHarness x = told(FOUR);
        refusedStep(x, "out 1;");
        work(x, "put 1 3;");
        refusedStep(x, "out 0;");
        done(x, "out 1;");
        due("its place", x.feeling(1, 2), NONE);
        due("nobody is there", x.at(3), NONE);
        refusedStep(x, "out 1;");
        done(x, "put 3 3;");
    }

    private static void draw() {
        says("draw: its buckle is N tight (REFUSED, if it is).");
        FeltHarness x = told(FOUR, "", "put 1 0;");
        refusedStep(x, "draw 1 5;");
        done(x, "draw 1 9;");
        due("the most", x.feeling(1, 3), 9);
        refusedStep(x, "draw 1 9;");
        done(x, "draw 1 0;");
        due("the least", x.feeling(1, 3), 0);
        due("by hand it stays in the team", x.feeling(1, 2), 0);
        refusedStep(x, "draw 1 0;");
        done(x, "draw 0 4;");
        due("in the stable", x.feeling(0, 3), 4);
        done(x, "draw 0 5;");
    }

    private static void home() {
        says("home: no STAGE is behind (REFUSED, if none is).");
        FeltHarness x = told(ONE, "30", "");
        refusedStep(x, "home;");
        work(x, "put 0 0;drive;");
        due("one is behind", x.told(3), 1);
        done(x, "home;");
        due("none is behind", x.told(3), 0);
        due("nor this one", x.stage(0, 2), 0);
        refusedStep(x, "home;");
        due("both", work(x, "drive;drive;"), 2);
        done(x, "home;");
        due("none is behind", x.told(3), 0);
        due("through stays", x.told(7), 3);
        refusedStep(told("feeling 1 0;"), "home;");
    }

    private static void rest() {
        says("rest (REFUSED from DAY 900 on)");
        FeltHarness x = atDay(899, "feeling 20 0;feeling 1 0;stage 60 0;");
        law(x, "0");
        work(x, "put 0 0;drive;drive;");
        due("tired", x.feeling(0, 4), 4);
        done(x, "rest;");
        due("day", x.told(2), 900);
        due("less tired", x.feeling(0, 4), 3);
        refusedStep(x, "rest;");
        refusedStep(x, "rest;");
        due("as tired as it was", x.feeling(0, 4), 3);
        due("the others are refused, too", work(x, "rest;drive;rest;"), 1);
        due("refused", x.told(11), 2);
        x.undo();
        FeltHarness y = atDay(899, ONE);
        due("one of two", work(y, "rest;rest;"), 1);
        due("refused", y.told(11), 1);
    }

    private static void restTired() {
        says("who is in the stable is less TIRED by 3 and its STEADY, who is in the TEAM by 1, 0 at least; the DAY is one more.");
        String house = "feeling 1 0;feeling 1 9;feeling 1 0;stage 60 0;";
        // 6 and 14 tired in the stable, 4 in the team
        FeltHarness x = told(house, "0", "put 0 0;put 1 1;drive;drive;drive;out 0;drive;drive;put 2 2;drive;drive;out 1;");
        int[] tired = {6, 14, 4};
        int[][] then = {{3, 2, 3}, {0, 0, 2}, {0, 0, 1}, {0, 0, 0}, {0, 0, 0}};
        for (int f = 0; f < 3; f++) {
            due("tired " + f, x.feeling(f, 4), tired[f]);
        }
        for (int day = 0; day < then.length; day++) {
            done(x, "rest;");
            due("day", x.told(2), day + 1);
            for (int f = 0; f < 3; f++) {
                due("tired " + f + " behind day " + day, x.feeling(f, 4), then[day][f]);
            }
        }
        FeltHarness exact = told("feeling 1 9;feeling 1 1;stage 60 0;", "0", "put 0 0;again 6[drive;];out 0;rest;");
        due("12 less of 12", exact.feeling(0, 4), 0);
        exact = told("feeling 1 9;feeling 1 1;stage 60 0;", "0", "put 1 0;again 2[drive;];out 1;rest;");
        due("4 less of 4", exact.feeling(1, 4), 0);
    }

    private static void driveRefused() {
        says("drive (REFUSED, if nobody is in the TEAM, or all STAGES are behind): the next STAGE");
        FeltHarness x = told(ONE, "30", "");
        refusedStep(x, "drive;");
        work(x, "put 0 0;");
        done(x, "drive;");
        due("the next one is the second", x.told(3), 1);
        due("tired by the first", x.feeling(0, 4), 3);
        done(x, "drive;");
        due("tired by the second", x.feeling(0, 4), 4);
        due("all are behind", x.told(3), 2);
        refusedStep(x, "drive;");
        work(x, "home;out 0;");
        refusedStep(x, "drive;");
        FeltHarness none = told("feeling 1 0;", "30", "put 0 0;");
        refusedStep(none, "drive;");
        FeltHarness six = told("feeling 1 0;" + "stage 1 0;".repeat(6) + "bears 40;", "30", "put 0 0;");
        due("six", work(six, "again 7[drive;];"), 6);
        due("refused", six.told(11), 1);
        due("all", six.told(3), 6);
    }

    private static void asItIsAhead() {
        says("all asked as it is ahead of it");
        FeltHarness x = told("feeling 1 0;feeling 1 0;stage 60 0;bears 12;", "20-tired*10", "put 0 0;put 1 1;drive;");
        due("through", x.told(7), 1);
        due("tired 0", x.feeling(0, 4), 2);
        due("tired 1", x.feeling(1, 4), 2);
        FeltHarness y = told("feeling 1 0;feeling 1 0;stage 1 0;bears 1;", "tight+place*2", "put 0 0;put 1 1;drive;");
        due("spilt", y.told(8), 1);
        due("tight 0", y.feeling(0, 3), 2);
        due("tight 1", y.feeling(1, 3), 2);
        FeltHarness z = told("feeling 1 0;stage 1 0;stage 1 0;bears 40;", "20*(1-stage)", "put 0 0;drive;drive;");
        due("no stage behind at the first", z.told(7), 1);
        due("one behind at the second", z.told(9), 1);
        FeltHarness w = told("feeling 1 0;feeling 1 0;stage 1 0;bears 40;", "(team-1)*9", "put 0 0;drive;put 1 1;drive;");
        due("a team of one", w.told(9), 1);
        due("a team of two", w.told(7), 1);
    }

    private static void stuck() {
        says("is STRENGTH less than a third (cut) of LENGTH and 1 more, they are STUCK: all in the TEAM are 2 more TIRED.");
        int[][] lengths = {{1, 1}, {2, 1}, {3, 2}, {5, 2}, {6, 3}, {29, 10}, {30, 11}, {59, 20}, {60, 21}};
        for (int[] row : lengths) {
            String house = "feeling 1 0;feeling 1 0;stage " + row[0] + " 0;bears 40;";
            FeltHarness less = told(house, Integer.toString(row[1] - 1), "put 0 0;drive;");
            due("stuck in " + row[0], less.told(9), 1);
            due("through or spilt in " + row[0], less.told(7) + less.told(8), 0);
            due("tired", less.feeling(0, 4), 2);
            due("tired in the stable", less.feeling(1, 4), 0);
            due("tight", less.feeling(0, 3), 5);
            due("behind", less.told(3), 0);
            due("its place", less.feeling(0, 2), 0);
            FeltHarness enough = told(house, Integer.toString(row[1]), "put 0 0;drive;");
            due("through " + row[0], enough.told(7), 1);
            due("stuck in " + row[0], enough.told(9), 0);
        }
        FeltHarness both = told("feeling 1 0;feeling 1 0;stage 60 9;bears 1;", "10", "put 0 0;put 1 2;drive;");
        due("stuck goes ahead of spilt", both.told(9), 1);
        due("not spilt", both.told(8), 0);
    }

    private static void spilt() {
        says("Else is TILT and TURN together more than N of bears, they are SPILT");
        int[][] rows = {{1, 1, 0}, {12, 12, 0}, {12, 3, 9}, {40, 40, 0}, {40, 31, 9}, {5, 1, 4}};
        for (int[] row : rows) {
            for (int place = 0; place < 4; place++) {
                String drive = "put 0 " + place + ";drive;";
                String bears = "bears " + row[0] + ";";
                String force = Integer.toString(row[1]);
                FeltHarness borne = told("feeling 1 0;stage 1 " + row[2] + ";" + bears, force, drive);
                due("through at " + place, borne.told(7), 1);
                due("spilt at " + place, borne.told(8), 0);
                FeltHarness tilted = told("feeling 1 0;stage 1 " + row[2] + ";" + bears, force + "+1", drive);
                due("spilt by the tilt at " + place, tilted.told(8), 1);
                due("through at " + place, tilted.told(7), 0);
                due("behind", tilted.told(3), 0);
                if (row[2] < 9) {
                    FeltHarness turned = told("feeling 1 0;stage 1 " + (row[2] + 1) + ";" + bears, force, drive);
                    due("spilt by the turn at " + place, turned.told(8), 1);
                }
            }
        }
        due("12 without", told("feeling 1 0;stage 1 0;", "12", "put 0 1;drive;").told(7), 1);
        due("13 without", told("feeling 1 0;stage 1 0;", "13", "put 0 1;drive;").told(8), 1);
    }

    private static void buckles() {
        says("all in the TEAM are 5 more TIRED, their buckles 3 less tight, 0 at least, and whose is 0 then is in the stable.");
        for (int tight = 0; tight <= 9; tight++) {
            FeltHarness x = told("feeling 1 0;feeling 1 0;stage 1 0;", "20", "draw 0 " + tight + ";put 0 2;drive;");
            due("spilt", x.told(8), 1);
            due("tired from " + tight, x.feeling(0, 4), 5);
            due("tight from " + tight, x.feeling(0, 3), Math.max(0, tight - 3));
            due("place from " + tight, x.feeling(0, 2), tight <= 3 ? NONE : 2);
            due("who is in the stable is as tight", x.feeling(1, 3), 5);
            due("who is in the stable is as tired", x.feeling(1, 4), 0);
            due("the place is free for another", work(x, "put 1 2;"), tight <= 3 ? 1 : 0);
        }
        FeltHarness four = told("feeling 1 0;feeling 1 0;feeling 1 0;feeling 1 0;feeling 1 0;stage 1 0;", "60-place*20",
                "draw 0 9;draw 1 4;draw 2 3;draw 3 0;draw 4 0;put 0 0;put 1 1;put 2 2;put 3 3;drive;");
        due("spilt", four.told(8), 1);
        due("who is left", four.told(4), 3);
        int[] tight = {6, 1, 0, 0, 0};
        int[] tired = {5, 5, 5, 5, 0};
        for (int f = 0; f < 5; f++) {
            due("tight " + f, four.feeling(f, 3), tight[f]);
            due("tired " + f, four.feeling(f, 4), tired[f]);
        }
    }

    private static void through() {
        says("Else they are THROUGH: one STAGE more is behind, all in the TEAM are more TIRED by LENGTH by STRENGTH (cut), "
                + "1 more, and a third (cut) of TURN more.");
        // length, turn, force of each of two, how tired
        int[][] rows = {{60, 0, 31, 1}, {60, 0, 30, 2}, {60, 0, 29, 2}, {60, 0, 16, 2}, {60, 0, 15, 3}, {60, 0, 11, 3},
            {1, 0, 1, 1}, {2, 0, 1, 2}, {3, 0, 1, 2}, {4, 0, 60, 1}, {1, 2, 30, 1}, {1, 3, 30, 2}, {1, 5, 30, 2},
            {1, 6, 30, 3}, {1, 8, 30, 3}, {1, 9, 30, 4}, {60, 9, 11, 6}};
        for (int[] row : rows) {
            FeltHarness x = told("feeling 1 0;feeling 1 0;feeling 1 0;stage " + row[0] + " " + row[1] + ";stage 1 0;",
                    Integer.toString(row[2]), "put 0 0;put 1 1;drive;");
            due("through", x.told(7), 1);
            due("behind", x.told(3), 1);
            due("tired by " + row[0] + " " + row[1] + " " + row[2], x.feeling(0, 4), row[3]);
            due("both", x.feeling(1, 4), row[3]);
            due("not who is in the stable", x.feeling(2, 4), 0);
            due("as tight as they were", x.feeling(0, 3), 5);
        }
        due("a strength of 1 in a length of 1", told("feeling 1 0;stage 1 0;", "1", "put 0 0;drive;").feeling(0, 4), 2);
        due("a strength of 1 in a length of 2", told("feeling 1 0;stage 2 0;", "1", "put 0 0;drive;").feeling(0, 4), 3);
    }

    private static FeltHarness tiredBy(int drives) {
        FeltHarness x = told(ONE, "0", "draw 0 9;put 0 0;");
        driveOften(x, drives);
        due("tired", x.feeling(0, 4), Math.min(999, 2 * drives));
        return x;
    }

    private static void mostTired() {
        says("(999 TIRED at most, whatever comes; the STEP is done each time.)");
        FeltHarness x = tiredBy(498);
        done(x, "drive;");
        due("998", x.feeling(0, 4), 998);
        done(x, "drive;");
        due("stuck, not 1000", x.feeling(0, 4), 999);
        done(x, "drive;");
        due("stuck at 999", x.feeling(0, 4), 999);
        due("stuck each time", x.told(9), 501);
        law(x, "60");
        done(x, "drive;");
        due("spilt at 999", x.feeling(0, 4), 999);
        due("spilt", x.told(8), 1);
        law(x, "40");
        done(x, "drive;");
        due("through at 999", x.feeling(0, 4), 999);
        due("through", x.told(7), 1);
        done(x, "rest;");
        due("rest", x.feeling(0, 4), 998);
        int[][] spilt = {{496, 997}, {497, 999}, {498, 999}, {499, 999}};
        for (int[] row : spilt) {
            FeltHarness y = tiredBy(row[0]);
            law(y, "60");
            done(y, "drive;");
            due("spilt from " + 2 * row[0], y.feeling(0, 4), row[1]);
        }
        int[][] through = {{498, 998}, {499, 999}};
        for (int[] row : through) {
            FeltHarness y = tiredBy(row[0]);
            law(y, "40");
            done(y, "drive;");
            due("through from " + 2 * row[0], y.feeling(0, 4), row[1]);
        }
    }
}
