import java.util.NoSuchElementException;

/** A coaching house whose feelings are put to a coach; the numbered promises of DOC.md say what each call answers. */
public final class FeltHarness {
    public static final int NONE = -1;

    private static final int FEELINGS = 8;
    private static final int STAGES = 6;
    private static final int PLACES = 4;
    private static final int CLAUSES = 60;
    private static final int DEEPEST = 6;
    private static final int TAPE_BYTES = 600;
    private static final int LAW_BYTES = 150;
    private static final int WORK_BYTES = 150;
    private static final int BOOK_BYTES = 60;
    private static final int WORKS = 16;
    private static final int IMAGES = 3;
    private static final int MOST_TIRED = 999;
    private static final int MOST_RESTS = 99;
    private static final int MOST_FORCE = 60;
    private static final int LAST_DAY = 900;

    private static final int WRONG_SIGN = 1;
    private static final int WRONG_NUMBER = 2;
    private static final int TOO_MANY = 3;

    private static final int STUCK = 0;
    private static final int SPILT = 1;
    private static final int THROUGH = 2;

    private final Text text = new Text();
    private final House inn = new House();
    private final House draft = new House();
    private final Law rule = new Law();
    private final Book lines = new Book();
    private final Plan plan = new Plan();
    private final Coach now = new Coach(inn, rule);
    private final Coach trial = new Coach(inn, rule);
    private final Shelf shelf = new Shelf();
    private final Search search = new Search();
    private final Stable boxes = new Stable();
    private final Guess guess = new Guess();
    private int seedNow;
    private int refusedSteps;
    private int noSuch;
    private int illegal;

    public FeltHarness() {
        now.start();
    }

    public int feed(int a, int b, int c, int d, int e) {
        if (text.held + 20 > TAPE_BYTES) {
            return NONE;
        }
        text.add(a);
        text.add(b);
        text.add(c);
        text.add(d);
        text.add(e);
        return text.held;
    }

    public int house(int n) throws IllegalArgumentException {
        needText(n, TAPE_BYTES);
        text.begin(n);
        draft.read(text);
        if (!text.isFine()) {
            return text.kind - 10;
        }
        search.forget();
        inn.copyFrom(draft);
        rule.clear();
        lines.clear();
        shelf.clear();
        now.start();
        refusedSteps = 0;
        return inn.feelings;
    }

    public int law(int n) throws IllegalArgumentException {
        needText(n, LAW_BYTES);
        text.begin(n);
        search.forget();
        rule.read(text);
        return text.isFine() ? 1 : text.kind - 10;
    }

    public int work(int n) throws IllegalArgumentException {
        needText(n, WORK_BYTES);
        if (shelf.works >= WORKS) {
            text.begin(0);
            return -20;
        }
        text.begin(n);
        plan.read(text, inn.feelings);
        if (!text.isFine()) {
            return text.kind - 10;
        }
        search.forget();
        shelf.keepWork(now);
        plan.prepare();
        plan.runSteps(now, 0, plan.size, 0);
        refusedSteps = plan.refused;
        return plan.done;
    }

    public int book(int n) throws IllegalArgumentException {
        needText(n, BOOK_BYTES);
        text.begin(n);
        lines.read(text, inn.feelings);
        return text.isFine() ? lines.size : text.kind - 10;
    }

    public int fault() {
        return text.spot;
    }

    public int undo() {
        if (shelf.works == 0) {
            return -1;
        }
        search.forget();
        shelf.takeWork(now);
        refusedSteps = 0;
        return shelf.works;
    }

    public int told(int what) throws IllegalArgumentException {
        need(within(what, 0, 12));
        switch (what) {
            case 0: return inn.feelings;
            case 1: return inn.stages;
            case 2: return now.day();
            case 3: return now.behind();
            case 4: return now.teamBits();
            case 5: return now.strengthNow();
            case 6: return now.tiltNow();
            case 7: return now.howOften(THROUGH);
            case 8: return now.howOften(SPILT);
            case 9: return now.howOften(STUCK);
            case 10: return lines.size;
            case 11: return refusedSteps;
            default: return inn.bears;
        }
    }

    public int feeling(int feeling, int what) throws NoSuchElementException, IllegalArgumentException {
        needFeeling(feeling);
        need(within(what, 0, 5));
        switch (what) {
            case 0: return inn.pullOf(feeling);
            case 1: return inn.calmOf(feeling);
            case 2: return now.placeOf(feeling);
            case 3: return now.tightOf(feeling);
            case 4: return now.tiredOf(feeling);
            default: return inn.foesOf(feeling);
        }
    }

    public int stage(int stage, int what) throws NoSuchElementException, IllegalArgumentException {
        needStage(stage);
        need(within(what, 0, 2));
        switch (what) {
            case 0: return inn.lengthOf(stage);
            case 1: return inn.turnOf(stage);
            default: return stage < now.behind() ? 1 : 0;
        }
    }

    public int at(int place) throws IllegalArgumentException {
        need(isPlace(place));
        return now.whoIsAt(place);
    }

    public int force(int feeling, int place) throws NoSuchElementException, IllegalArgumentException {
        needFeeling(feeling);
        need(isPlace(place));
        return now.forceOf(feeling, place, now.teamSize());
    }

    public int would(int pull, int steady, int tight, int tired, int place, int stage, int team, int day)
            throws IllegalArgumentException {
        need(within(pull, 1, 20) && within(steady, 0, 9) && within(tight, 0, 9)
                && within(tired, 0, MOST_TIRED) && isPlace(place) && within(stage, 0, STAGES)
                && within(team, 0, PLACES) && within(day, 0, LAST_DAY));
        rule.tellFeeling(pull, steady, tight, tired);
        rule.tellRoad(place, stage, team, day);
        return rule.answer();
    }

    public int comes(int stage) throws NoSuchElementException {
        needStage(stage);
        return now.teamSize() == 0 ? NONE : now.outcome(stage);
    }

    public int journey() {
        trial.copyFrom(now);
        int through = 0;
        for (int i = 0; i < STAGES; i++) {
            if (!trial.canDrive() || trial.outcome(trial.behind()) != THROUGH) {
                return through;
            }
            trial.driveOver(trial.behind());
            through++;
        }
        return through;
    }

    public int waits() {
        if (!now.canDrive()) {
            return NONE;
        }
        trial.copyFrom(now);
        for (int rests = 0; rests <= MOST_RESTS; rests++) {
            if (trial.outcome(trial.behind()) == THROUGH) {
                return rests;
            }
            trial.restOneDay();
        }
        return NONE;
    }

    public int team(int stage, int what) throws NoSuchElementException, IllegalArgumentException {
        needStage(stage);
        need(within(what, 0, 1));
        return what == 0 ? search.strengthFor(now, stage) : search.tiltFor(now, stage);
    }

    public int stands(int stage, int place) throws NoSuchElementException, IllegalArgumentException {
        needStage(stage);
        need(isPlace(place));
        return search.whoFor(now, stage, place);
    }

    public int stalls() {
        return boxes.fill(inn);
    }

    public int stall(int feeling) throws NoSuchElementException {
        needFeeling(feeling);
        boxes.fill(inn);
        return boxes.boxOf(feeling);
    }

    public int swap(int what) throws IllegalArgumentException {
        need(within(what, 0, 1));
        int bestTilt = now.tiltNow();
        int best = NONE;
        for (int a = 0; a < PLACES; a++) {
            for (int b = a + 1; b < PLACES; b++) {
                trial.copyFrom(now);
                trial.change(a, b);
                int tilt = trial.tiltNow();
                if (tilt < bestTilt) {
                    bestTilt = tilt;
                    best = 10 * a + b;
                }
            }
        }
        return what == 0 || best == NONE ? best : bestTilt;
    }

    public int fits(int what) throws IllegalArgumentException {
        need(within(what, 0, 1));
        guess.gather(now, trial, lines);
        return what == 0 ? guess.size : guess.first;
    }

    public int look(int what) throws IllegalArgumentException {
        need(within(what, 0, 1));
        guess.gather(now, trial, lines);
        int best = NONE;
        int fewest = NONE;
        for (int f = 0; f < inn.feelings; f++) {
            if (!lines.has(f)) {
                int left = guess.worst(f);
                if (best == NONE || left < fewest) {
                    best = f;
                    fewest = left;
                }
            }
        }
        return what == 0 ? best : fewest;
    }

    public int thumb(int v, int w, int what) throws IllegalArgumentException {
        need(within(v, 0, 99) && within(w, 0, 99) && within(what, 0, 2));
        int many = 0;
        int first = NONE;
        int both = 0;
        for (int one = 0; one <= 1; one++) {
            for (int other = 0; other <= 1; other++) {
                if (thumbRests(v, w, one, other)) {
                    if (many == 0) {
                        first = 10 * one + other;
                        both = thumbHas(v, w, one, other) + thumbHas(v, w, other, one);
                    }
                    many++;
                }
            }
        }
        return what == 0 ? many : what == 1 ? first : both;
    }

    public long steady(int n, int k, int q, int part) throws IllegalArgumentException {
        need(within(n, 0, 12) && within(k, 0, 13) && within(q, 0, 16) && within(part, 0, 1));
        long above = 0;
        for (int calm = k; calm <= n; calm++) {
            above += ways(n, calm) * power(16 - q, calm) * power(q, n - calm);
        }
        long below = power(16, n);
        long shared = commonDivisor(above, below);
        if (shared == 0) {
            return part;
        }
        return part == 0 ? above / shared : below / shared;
    }

    public int oats(int feeling, int feelings, int n) throws NoSuchElementException, IllegalArgumentException {
        needFeeling(feeling);
        need(feelings >> inn.feelings == 0 && within(n, 0, 9999));
        if ((feelings >> feeling & 1) == 0) {
            return 0;
        }
        // A bound above how TIRED this one is would give it no more.
        int bound = 0;
        while (bound < now.tiredOf(feeling) && oatsWithin(feelings, bound + 1) <= n) {
            bound++;
        }
        return bound;
    }

    public int weariest(int what) throws IllegalArgumentException {
        need(within(what, 0, 1));
        int who = NONE;
        int most = NONE;
        for (int f = 0; f < inn.feelings; f++) {
            if (now.tiredOf(f) > most) {
                who = f;
                most = now.tiredOf(f);
            }
        }
        return what == 0 ? who : most;
    }

    public int loosest(int what) throws IllegalArgumentException {
        need(within(what, 0, 1));
        int who = NONE;
        int least = NONE;
        for (int f = 0; f < inn.feelings; f++) {
            if (now.hasPlace(f) && (who == NONE || now.tightOf(f) < least)) {
                who = f;
                least = now.tightOf(f);
            }
        }
        return what == 0 ? who : least;
    }

    public int willing(int place) throws IllegalArgumentException {
        need(isPlace(place));
        int bits = 0;
        for (int f = 0; f < inn.feelings; f++) {
            if (now.canPut(f, place)) {
                bits |= 1 << f;
            }
        }
        return bits;
    }

    public int clashes(int what) throws IllegalArgumentException {
        need(within(what, 0, 1));
        int ends = 0;
        int who = NONE;
        int most = 0;
        for (int f = 0; f < inn.feelings; f++) {
            int foes = Integer.bitCount(inn.foesOf(f));
            ends += foes;
            if (foes > most) {
                who = f;
                most = foes;
            }
        }
        return what == 0 ? ends / 2 : who;
    }

    public int open() {
        int bits = 0;
        for (int s = 0; s < inn.stages; s++) {
            if (now.teamSize() > 0 && now.outcome(s) == THROUGH) {
                bits |= 1 << s;
            }
        }
        return bits;
    }

    public int lost() {
        trial.copyFrom(now);
        trial.spill();
        return now.teamBits() & ~trial.teamBits();
    }

    public int rested(int feeling, int n) throws NoSuchElementException, IllegalArgumentException {
        needFeeling(feeling);
        need(within(n, 0, MOST_RESTS));
        return Math.max(0, now.tiredOf(feeling) - n * now.easeOf(feeling));
    }

    public int side(int side) throws IllegalArgumentException {
        need(within(side, 0, 1));
        now.weigh();
        return side == 0 ? now.near : now.off;
    }

    public int needs(int stage) throws NoSuchElementException {
        needStage(stage);
        return Math.max(0, inn.leastStrength(stage) - now.strengthNow());
    }

    public int pairs(int feeling) throws NoSuchElementException {
        needFeeling(feeling);
        int all = (1 << inn.feelings) - 1;
        return all & ~(1 << feeling) & ~inn.foesOf(feeling);
    }

    public int length(int what) throws IllegalArgumentException {
        need(within(what, 0, 1));
        int sum = 0;
        for (int s = 0; s < inn.stages; s++) {
            if (s < now.behind() == (what == 0)) {
                sum += inn.lengthOf(s);
            }
        }
        return sum;
    }

    public int season(int seed, int days, int q, int what) throws IllegalArgumentException {
        need(within(days, 1, 96) && within(q, 0, 16) && within(what, 0, 3));
        playSeason(seed, days, q);
        switch (what) {
            case 0: return throughInSeason();
            case 1: return trial.howOften(SPILT) - now.howOften(SPILT);
            case 2: return trial.howOften(STUCK) - now.howOften(STUCK);
            default: return trial.teamBits();
        }
    }

    public int span(int seed, int many, int days, int q, int what, int feeling) throws IllegalArgumentException {
        need(within(many, 1, 20) && within(days, 1, 96) && within(q, 0, 16) && within(what, 0, 2)
                && within(feeling, 0, inn.feelings - 1));
        int fewest = 0;
        int most = 0;
        int inTeam = 0;
        for (int i = 0; i < many; i++) {
            playSeason(seed + i, days, q);
            int through = throughInSeason();
            fewest = i == 0 ? through : Math.min(fewest, through);
            most = Math.max(most, through);
            inTeam += trial.hasPlace(feeling) ? 1 : 0;
        }
        return what == 0 ? fewest : what == 1 ? most : inTeam;
    }

    public int image() {
        if (shelf.images >= IMAGES) {
            return -1;
        }
        shelf.keepImage(now);
        return shelf.images;
    }

    public int restore() {
        if (shelf.images == 0) {
            return -1;
        }
        search.forget();
        shelf.takeImage(now);
        refusedSteps = 0;
        return shelf.images;
    }

    public int status(int what) {
        return what == 0 ? noSuch : what == 1 ? illegal : NONE;
    }

    public int count(int what) {
        switch (what) {
            case 0: return shelf.images;
            case 1: return text.held;
            case 2: return shelf.works;
            default: return NONE;
        }
    }

    private void needFeeling(int feeling) {
        if (!within(feeling, 0, inn.feelings - 1)) {
            noSuch++;
            throw new NoSuchElementException("no such feeling");
        }
    }

    private void needStage(int stage) {
        if (!within(stage, 0, inn.stages - 1)) {
            noSuch++;
            throw new NoSuchElementException("no such stage");
        }
    }

    private void need(boolean right) {
        if (!right) {
            illegal++;
            throw new IllegalArgumentException("an argument is out of its bounds");
        }
    }

    private void needText(int n, int most) {
        need(within(n, 0, Math.min(text.held, most)));
    }

    private static boolean within(int value, int least, int most) {
        return value >= least && value <= most;
    }

    private static boolean isPlace(int place) {
        return within(place, 0, PLACES - 1);
    }

    private static int thumbHas(int v, int w, int own, int others) {
        if (own == 0) {
            return others == 0 ? w : 0;
        }
        return others == 0 ? v : -w;
    }

    private static boolean thumbRests(int v, int w, int one, int other) {
        return thumbHas(v, w, one, other) >= thumbHas(v, w, 1 - one, other)
                && thumbHas(v, w, other, one) >= thumbHas(v, w, 1 - other, one);
    }

    private static long ways(int n, int k) {
        long ways = 1;
        for (int i = 1; i <= k; i++) {
            ways = ways * (n - k + i) / i;
        }
        return ways;
    }

    private static long power(int base, int exponent) {
        long product = 1;
        for (int i = 0; i < exponent; i++) {
            product *= base;
        }
        return product;
    }

    private static long commonDivisor(long a, long b) {
        long greater = a;
        long lesser = b;
        // Each two turns halve the lesser one, so 64 bits are gone long before 200 turns.
        for (int i = 0; i < 200 && lesser != 0; i++) {
            long left = greater % lesser;
            greater = lesser;
            lesser = left;
        }
        return greater;
    }

    private int oatsWithin(int feelings, int bound) {
        int given = 0;
        for (int f = 0; f < inn.feelings; f++) {
            if ((feelings >> f & 1) == 1) {
                given += Math.min(now.tiredOf(f), bound);
            }
        }
        return given;
    }

    private int throughInSeason() {
        return trial.howOften(THROUGH) - now.howOften(THROUGH);
    }

    private void playSeason(int seed, int days, int q) {
        trial.copyFrom(now);
        seedNow = seed;
        for (int day = 0; day < days; day++) {
            changeTeam();
            if (drawn(16) < q) {
                if (trial.behind() >= inn.stages) {
                    // With no STAGE behind there is nothing to go home from, and this changes nothing.
                    trial.goHome();
                } else if (trial.canDrive()) {
                    trial.driveOver(trial.behind());
                }
            }
            trial.restOneDay();
        }
    }

    private void changeTeam() {
        if (inn.feelings == 0) {
            return;
        }
        int f = drawn(inn.feelings);
        if (trial.hasPlace(f)) {
            trial.takeOut(f);
            return;
        }
        int place = drawn(PLACES);
        if (trial.canPut(f, place)) {
            trial.setPlace(f, place);
        }
    }

    private int drawn(int by) {
        seedNow = seedNow * 1103515245 + 12345;
        return by <= 0 ? 0 : (seedNow >>> 16 & 32767) % by;
    }

    /** The TAPE, and the reader of the text that is taken from it. */
    private static final class Text {
        private final byte[] bytes = new byte[TAPE_BYTES];
        private int held;
        private int end;
        private int next;
        private int mark;
        private int kind;
        private int spot = NONE;

        void add(int number) {
            for (int shift = 24; shift >= 0; shift -= 8) {
                if (held < bytes.length) {
                    bytes[held] = (byte) (number >>> shift);
                    held++;
                }
            }
        }

        /** The TAPE counts as empty from here on; its bytes are still read. */
        void begin(int n) {
            end = Math.min(n, bytes.length);
            held = 0;
            next = 0;
            mark = 0;
            kind = 0;
            spot = NONE;
        }

        boolean isFine() {
            return kind == 0;
        }

        /** Reading goes from left to right and stops here, so the first FAULT is the one that counts. */
        void fail(int fault, int where) {
            if (kind == 0) {
                kind = fault;
                spot = where;
            }
        }

        /** The next byte behind blanks; NONE at the end. */
        int peek() {
            while (next < end && next < bytes.length && bytes[next] == ' ') {
                next++;
            }
            return next < end && next < bytes.length ? bytes[next] & 255 : NONE;
        }

        void skip() {
            if (next < end) {
                next++;
            }
        }

        void takeSign(char sign) {
            if (peek() == sign) {
                skip();
            } else {
                fail(WRONG_SIGN, next);
            }
        }

        int takeNumber(int least, int most) {
            int first = peek();
            mark = next;
            if (!isDigit(first)) {
                fail(WRONG_SIGN, next);
                return least;
            }
            int value = 0;
            while (next < end && isDigit(byteAt(next))) {
                // No number of the document has five digits: what is more stays more.
                value = Math.min(value * 10 + byteAt(next) - '0', 10000);
                next++;
            }
            if (value < least || value > most) {
                fail(WRONG_NUMBER, mark);
            }
            return value;
        }

        /** Which of the words (a blank behind each) stands next; NONE, and a FAULT, if it is another. */
        int takeWord(String words) {
            peek();
            mark = next;
            while (next < end && isLetter(byteAt(next))) {
                next++;
            }
            int which = 0;
            int from = 0;
            for (int i = 0; i < words.length(); i++) {
                if (words.charAt(i) == ' ') {
                    if (isSame(words, from, i)) {
                        return which;
                    }
                    which++;
                    from = i + 1;
                }
            }
            fail(WRONG_SIGN, mark);
            return NONE;
        }

        private boolean isSame(String words, int from, int to) {
            if (next - mark != to - from) {
                return false;
            }
            for (int i = from; i < to && i < words.length(); i++) {
                if (byteAt(mark + i - from) != words.charAt(i)) {
                    return false;
                }
            }
            return true;
        }

        private int byteAt(int index) {
            return index >= 0 && index < end && index < bytes.length ? bytes[index] & 255 : NONE;
        }

        static boolean isDigit(int sign) {
            return sign >= '0' && sign <= '9';
        }

        static boolean isLetter(int sign) {
            return sign >= 'a' && sign <= 'z';
        }
    }

    /** What a HOUSE tells. */
    private static final class House {
        private static final String WORDS = "feeling clash stage bears ";
        private static final int FEELING = 0;
        private static final int CLASH = 1;
        private static final int STAGE = 2;

        private final int[] pull = new int[FEELINGS];
        private final int[] calm = new int[FEELINGS];
        private final int[] foes = new int[FEELINGS];
        private final int[] reach = new int[STAGES];
        private final int[] turn = new int[STAGES];
        private int feelings;
        private int stages;
        private int bears = 12;

        void copyFrom(House other) {
            System.arraycopy(other.pull, 0, pull, 0, FEELINGS);
            System.arraycopy(other.calm, 0, calm, 0, FEELINGS);
            System.arraycopy(other.foes, 0, foes, 0, FEELINGS);
            System.arraycopy(other.reach, 0, reach, 0, STAGES);
            System.arraycopy(other.turn, 0, turn, 0, STAGES);
            feelings = other.feelings;
            stages = other.stages;
            bears = other.bears;
        }

        void read(Text text) {
            feelings = 0;
            stages = 0;
            bears = 12;
            for (int clauses = 0; clauses <= CLAUSES && text.isFine() && text.peek() != NONE; clauses++) {
                readClause(text, clauses);
                text.takeSign(';');
            }
        }

        private void readClause(Text text, int clauses) {
            int word = text.takeWord(WORDS);
            if (clauses >= CLAUSES || word == FEELING && feelings >= FEELINGS
                    || word == STAGE && stages >= STAGES) {
                text.fail(TOO_MANY, text.mark);
            }
            if (!text.isFine()) {
                return;
            }
            if (word == FEELING) {
                readFeeling(text);
            } else if (word == CLASH) {
                readClash(text);
            } else if (word == STAGE) {
                readStage(text);
            } else {
                bears = text.takeNumber(1, 40);
            }
        }

        private void readFeeling(Text text) {
            int p = text.takeNumber(1, 20);
            int s = text.takeNumber(0, 9);
            if (text.isFine() && feelings < FEELINGS) {
                pull[feelings] = p;
                calm[feelings] = s;
                foes[feelings] = 0;
                feelings++;
            }
        }

        private void readClash(Text text) {
            int a = text.takeNumber(0, feelings - 1);
            int b = text.takeNumber(0, feelings - 1);
            if (a == b) {
                text.fail(WRONG_NUMBER, text.mark);
            }
            if (text.isFine() && within(a, 0, FEELINGS - 1) && within(b, 0, FEELINGS - 1)) {
                foes[a] |= 1 << b;
                foes[b] |= 1 << a;
            }
        }

        private void readStage(Text text) {
            int l = text.takeNumber(1, 60);
            int t = text.takeNumber(0, 9);
            if (text.isFine() && stages < STAGES) {
                reach[stages] = l;
                turn[stages] = t;
                stages++;
            }
        }

        boolean isFeeling(int f) {
            return f >= 0 && f < feelings && f < FEELINGS;
        }

        boolean isStage(int s) {
            return s >= 0 && s < stages && s < STAGES;
        }

        int pullOf(int f) {
            return isFeeling(f) ? pull[f] : 0;
        }

        int calmOf(int f) {
            return isFeeling(f) ? calm[f] : 0;
        }

        int foesOf(int f) {
            return isFeeling(f) ? foes[f] : 0;
        }

        int lengthOf(int s) {
            return isStage(s) ? reach[s] : 0;
        }

        int turnOf(int s) {
            return isStage(s) ? turn[s] : 0;
        }

        /** Below this STRENGTH they are STUCK. */
        int leastStrength(int s) {
            return lengthOf(s) / 3 + 1;
        }
    }

    /** The LAW as a row of codes, operands ahead of what joins them. */
    private static final class Law {
        private static final String WORDS = "pull steady tight tired place stage team day least most ";
        private static final int VARIABLES = 8;
        private static final int LEAST_WORD = 8;
        // Codes from 0 on are numbers, those from -1 to -8 variables, those below join two values.
        private static final int PULL = -1;
        private static final int TIGHT = -3;
        private static final int TIRED = -4;
        private static final int PLUS = -9;
        private static final int MINUS = -10;
        private static final int TIMES = -11;
        private static final int BY = -12;
        private static final int LEFT = -13;
        private static final int LEAST = -14;
        private static final int MOST = -15;

        private final int[] code = new int[LAW_BYTES];
        private final int[] drafted = new int[LAW_BYTES];
        private final int[] variables = new int[VARIABLES];
        // Three values wait at most in each of the seven levels of brackets.
        private final int[] stack = new int[24];
        private int size;
        private int draftSize;

        Law() {
            clear();
        }

        void clear() {
            draftSize = 0;
            emit(PULL);
            emit(TIGHT);
            emit(PLUS);
            emit(TIRED);
            emit(4);
            emit(BY);
            emit(MINUS);
            accept();
        }

        private void emit(int what) {
            if (draftSize < drafted.length) {
                drafted[draftSize] = what;
                draftSize++;
            }
        }

        private void accept() {
            System.arraycopy(drafted, 0, code, 0, LAW_BYTES);
            size = draftSize;
        }

        void read(Text text) {
            draftSize = 0;
            readSum(text, 0);
            if (text.peek() != NONE) {
                text.fail(WRONG_SIGN, text.next);
            }
            if (text.isFine()) {
                accept();
            }
        }

        private void readSum(Text text, int depth) {
            readProduct(text, depth);
            for (int i = 0; i < LAW_BYTES && text.isFine(); i++) {
                int sign = text.peek();
                if (sign != '+' && sign != '-') {
                    return;
                }
                text.skip();
                readProduct(text, depth);
                emit(sign == '+' ? PLUS : MINUS);
            }
        }

        private void readProduct(Text text, int depth) {
            readUnit(text, depth);
            for (int i = 0; i < LAW_BYTES && text.isFine(); i++) {
                int sign = text.peek();
                if (sign != '*' && sign != '/' && sign != '%') {
                    return;
                }
                text.skip();
                readUnit(text, depth);
                emit(sign == '*' ? TIMES : sign == '/' ? BY : LEFT);
            }
        }

        private void readUnit(Text text, int depth) {
            int sign = text.peek();
            if (Text.isDigit(sign)) {
                emit(text.takeNumber(0, 999));
            } else if (sign == '(') {
                readBrackets(text, depth);
            } else {
                int word = text.takeWord(WORDS);
                if (word >= LEAST_WORD) {
                    readChoice(text, depth, word == LEAST_WORD ? LEAST : MOST);
                } else if (word >= 0) {
                    emit(-1 - word);
                }
            }
        }

        private void readBrackets(Text text, int depth) {
            if (depth >= DEEPEST) {
                text.fail(TOO_MANY, text.next);
                return;
            }
            text.skip();
            readSum(text, depth + 1);
            text.takeSign(')');
        }

        private void readChoice(Text text, int depth, int choice) {
            if (depth >= DEEPEST) {
                text.fail(TOO_MANY, text.mark);
            }
            text.takeSign('[');
            if (!text.isFine()) {
                return;
            }
            readSum(text, depth + 1);
            text.takeSign(',');
            if (!text.isFine()) {
                return;
            }
            readSum(text, depth + 1);
            text.takeSign(']');
            emit(choice);
        }

        void tellFeeling(int pull, int calm, int tight, int tired) {
            variables[0] = pull;
            variables[1] = calm;
            variables[2] = tight;
            variables[3] = tired;
        }

        void tellRoad(int place, int behind, int size, int day) {
            variables[4] = place;
            variables[5] = behind;
            variables[6] = size;
            variables[7] = day;
        }

        /** FORCE by what was told last. */
        int answer() {
            int top = 0;
            for (int i = 0; i < size && i < code.length; i++) {
                int what = code[i];
                if (what <= PLUS) {
                    if (top >= 2 && top <= stack.length) {
                        top--;
                        stack[top - 1] = joined(what, stack[top - 1], stack[top]);
                    }
                } else if (top < stack.length) {
                    stack[top] = what >= 0 ? what : variable(-1 - what);
                    top++;
                }
            }
            return Math.max(0, Math.min(MOST_FORCE, stack[0]));
        }

        private int variable(int which) {
            return which >= 0 && which < variables.length ? variables[which] : 0;
        }

        private static int joined(int how, int a, int b) {
            switch (how) {
                case PLUS: return a + b;
                case MINUS: return a - b;
                case TIMES: return a * b;
                case BY: return b == 0 ? 0 : a / b;
                case LEFT: return b == 0 ? 0 : a % b;
                case LEAST: return a < b ? a : b;
                default: return a > b ? a : b;
            }
        }
    }

    /** The BOOK: how TIRED each FEELING was; NONE where no line tells it. */
    private static final class Book {
        private final int[] tired = new int[FEELINGS];
        private final int[] drafted = new int[FEELINGS];
        private int size;

        Book() {
            clear();
        }

        void clear() {
            for (int f = 0; f < FEELINGS; f++) {
                tired[f] = NONE;
            }
            size = 0;
        }

        void read(Text text, int feelings) {
            for (int f = 0; f < FEELINGS; f++) {
                drafted[f] = NONE;
            }
            int told = 0;
            // One line more than there can be is still begun, so that its FAULT is found.
            for (int i = 0; i <= FEELINGS && text.isFine() && text.peek() != NONE; i++) {
                readLine(text, feelings);
                text.takeSign(';');
                told++;
            }
            if (text.isFine()) {
                System.arraycopy(drafted, 0, tired, 0, FEELINGS);
                size = told;
            }
        }

        private void readLine(Text text, int feelings) {
            int f = text.takeNumber(0, feelings - 1);
            if (f < 0 || f >= FEELINGS || !text.isFine()) {
                return;
            }
            if (drafted[f] != NONE) {
                text.fail(WRONG_NUMBER, text.mark);
                return;
            }
            drafted[f] = text.takeNumber(0, MOST_TIRED);
        }

        boolean has(int f) {
            return f >= 0 && f < FEELINGS && tired[f] != NONE;
        }

        boolean isRight(Coach coach) {
            for (int f = 0; f < FEELINGS; f++) {
                if (tired[f] != NONE && tired[f] != coach.tiredOf(f)) {
                    return false;
                }
            }
            return true;
        }
    }

    /** WORK as a row of STEPS; an again knows where its own STEPS end. */
    private static final class Plan {
        private static final String WORDS = "put out draw drive home rest again ";
        private static final int PUT = 0;
        private static final int OUT = 1;
        private static final int DRAW = 2;
        private static final int DRIVE = 3;
        private static final int HOME = 4;
        private static final int REST = 5;
        private static final int AGAIN = 6;
        private static final int BEGUN_MOST = 200;
        // The shortest STEP has five bytes with its sign.
        private static final int STEPS = WORK_BYTES / 5;

        private final int[] word = new int[STEPS];
        private final int[] one = new int[STEPS];
        private final int[] two = new int[STEPS];
        private final int[] ends = new int[STEPS];
        private int feelings;
        private int size;
        private int begun;
        private int done;
        private int refused;

        void read(Text text, int feelingsTold) {
            feelings = feelingsTold;
            size = 0;
            readSteps(text, 0);
        }

        private void readSteps(Text text, int depth) {
            for (int i = 0; i <= STEPS && text.isFine(); i++) {
                int sign = text.peek();
                if (depth == 0 && sign == NONE || depth > 0 && sign == ']') {
                    return;
                }
                readStep(text, depth);
                text.takeSign(';');
            }
        }

        private void readStep(Text text, int depth) {
            int which = text.takeWord(WORDS);
            if (which == AGAIN && depth >= DEEPEST) {
                text.fail(TOO_MANY, text.mark);
            }
            if (!text.isFine() || size >= STEPS) {
                return;
            }
            int own = size;
            size++;
            word[own] = which;
            one[own] = 0;
            two[own] = 0;
            if (which == AGAIN) {
                one[own] = text.takeNumber(0, 60);
                text.takeSign('[');
                readSteps(text, depth + 1);
                text.takeSign(']');
            } else if (which <= DRAW) {
                one[own] = text.takeNumber(0, feelings - 1);
                if (which != OUT && text.isFine()) {
                    two[own] = text.takeNumber(0, which == PUT ? PLACES - 1 : 9);
                }
            }
            ends[own] = size;
        }

        void prepare() {
            begun = 0;
            done = 0;
            refused = 0;
        }

        private void runSteps(Coach coach, int from, int to, int depth) {
            int at = from;
            for (int i = 0; i < STEPS && at >= 0 && at < to && at < STEPS; i++) {
                if (begun >= BEGUN_MOST) {
                    return;
                }
                begun++;
                if (word[at] == AGAIN) {
                    runAgain(coach, at, depth);
                } else if (coach.isDone(word[at], one[at], two[at])) {
                    done++;
                } else {
                    refused++;
                }
                at = ends[at];
            }
        }

        private void runAgain(Coach coach, int at, int depth) {
            if (depth > DEEPEST || at < 0 || at >= STEPS) {
                return;
            }
            for (int i = 0; i < one[at] && begun < BEGUN_MOST; i++) {
                runSteps(coach, at + 1, ends[at], depth + 1);
            }
        }
    }

    /** All that WORK changes, in one row that can be kept and put back; and how it changes. */
    private static final class Coach {
        private static final int PLACE_AT = 0;
        private static final int TIGHT_AT = PLACE_AT + FEELINGS;
        private static final int TIRED_AT = TIGHT_AT + FEELINGS;
        private static final int DAY_AT = TIRED_AT + FEELINGS;
        private static final int BEHIND_AT = DAY_AT + 1;
        private static final int TALLY_AT = BEHIND_AT + 1;
        private static final int SIZE = TALLY_AT + 3;

        private final House inn;
        private final Law rule;
        private final int[] row = new int[SIZE];
        private int near;
        private int off;

        Coach(House inn, Law rule) {
            this.inn = inn;
            this.rule = rule;
        }

        void start() {
            for (int i = 0; i < SIZE; i++) {
                row[i] = i < TIGHT_AT ? NONE : i < TIRED_AT ? 5 : 0;
            }
        }

        void copyFrom(Coach other) {
            System.arraycopy(other.row, 0, row, 0, SIZE);
        }

        void saveTo(int[] rows, int from) {
            if (from >= 0 && from <= rows.length - SIZE) {
                System.arraycopy(row, 0, rows, from, SIZE);
            }
        }

        void loadFrom(int[] rows, int from) {
            if (from >= 0 && from <= rows.length - SIZE) {
                System.arraycopy(rows, from, row, 0, SIZE);
            }
        }

        int day() {
            return row[DAY_AT];
        }

        int behind() {
            return row[BEHIND_AT];
        }

        int howOften(int outcome) {
            return within(outcome, STUCK, THROUGH) ? row[TALLY_AT + outcome] : 0;
        }

        int placeOf(int f) {
            return inn.isFeeling(f) ? row[PLACE_AT + f] : NONE;
        }

        int tightOf(int f) {
            return inn.isFeeling(f) ? row[TIGHT_AT + f] : 0;
        }

        int tiredOf(int f) {
            return inn.isFeeling(f) ? row[TIRED_AT + f] : 0;
        }

        boolean hasPlace(int f) {
            return placeOf(f) != NONE;
        }

        void setPlace(int f, int place) {
            if (inn.isFeeling(f)) {
                row[PLACE_AT + f] = place;
            }
        }

        void takeOut(int f) {
            setPlace(f, NONE);
        }

        private void setTight(int f, int tight) {
            if (inn.isFeeling(f)) {
                row[TIGHT_AT + f] = Math.max(0, tight);
            }
        }

        private void setTired(int f, int tired) {
            if (inn.isFeeling(f)) {
                row[TIRED_AT + f] = Math.max(0, Math.min(MOST_TIRED, tired));
            }
        }

        int whoIsAt(int place) {
            for (int f = 0; f < inn.feelings; f++) {
                if (placeOf(f) == place) {
                    return f;
                }
            }
            return NONE;
        }

        int teamBits() {
            int bits = 0;
            for (int f = 0; f < inn.feelings && f < FEELINGS; f++) {
                if (row[PLACE_AT + f] != NONE) {
                    bits |= 1 << f;
                }
            }
            return bits;
        }

        int teamSize() {
            return Integer.bitCount(teamBits());
        }

        int forceOf(int f, int place, int size) {
            rule.tellFeeling(inn.pullOf(f), inn.calmOf(f), tightOf(f), tiredOf(f));
            rule.tellRoad(place, behind(), size, day());
            return rule.answer();
        }

        /** FORCES of both sides come to near and off. */
        void weigh() {
            int size = teamSize();
            near = 0;
            off = 0;
            for (int f = 0; f < inn.feelings; f++) {
                int place = placeOf(f);
                if (place != NONE) {
                    int force = forceOf(f, place, size);
                    if ((place & 1) == 0) {
                        near += force;
                    } else {
                        off += force;
                    }
                }
            }
        }

        int strengthNow() {
            weigh();
            return near + off;
        }

        int tiltNow() {
            weigh();
            return Math.abs(near - off);
        }

        int outcome(int s) {
            weigh();
            return outcomeAsWeighed(s);
        }

        private int outcomeAsWeighed(int s) {
            if (near + off < inn.leastStrength(s)) {
                return STUCK;
            }
            return Math.abs(near - off) + inn.turnOf(s) > inn.bears ? SPILT : THROUGH;
        }

        boolean canPut(int f, int place) {
            return inn.isFeeling(f) && !hasPlace(f) && whoIsAt(place) == NONE
                    && (inn.foesOf(f) & teamBits()) == 0;
        }

        boolean canDrive() {
            return teamBits() != 0 && behind() < inn.stages;
        }

        /** Does a STEP; false: it is REFUSED. */
        boolean isDone(int step, int f, int n) {
            boolean can = canDo(step, f, n);
            if (can) {
                switch (step) {
                    case Plan.PUT: setPlace(f, n); break;
                    case Plan.OUT: takeOut(f); break;
                    case Plan.DRAW: setTight(f, n); break;
                    case Plan.DRIVE: driveOver(behind()); break;
                    case Plan.HOME: goHome(); break;
                    default: restOneDay(); break;
                }
            }
            return can;
        }

        private boolean canDo(int step, int f, int n) {
            switch (step) {
                case Plan.PUT: return canPut(f, n);
                case Plan.OUT: return hasPlace(f);
                case Plan.DRAW: return tightOf(f) != n;
                case Plan.DRIVE: return canDrive();
                case Plan.HOME: return behind() != 0;
                case Plan.REST: return day() < LAST_DAY;
                default: return false;
            }
        }

        void goHome() {
            row[BEHIND_AT] = 0;
        }

        /** What is asked ahead goes on beyond the last DAY, so no DAY is refused here. */
        void restOneDay() {
            for (int f = 0; f < inn.feelings; f++) {
                setTired(f, tiredOf(f) - easeOf(f));
            }
            row[DAY_AT]++;
        }

        int easeOf(int f) {
            return hasPlace(f) ? 1 : 3 + inn.calmOf(f);
        }

        void driveOver(int s) {
            weigh();
            int how = outcomeAsWeighed(s);
            int strength = near + off;
            if (how == STUCK) {
                tireTeam(2);
            } else if (how == SPILT) {
                tireTeam(5);
                spill();
            } else {
                int slow = strength > 0 ? inn.lengthOf(s) / strength : 0;
                tireTeam(slow + 1 + inn.turnOf(s) / 3);
                row[BEHIND_AT]++;
            }
            if (within(how, STUCK, THROUGH)) {
                row[TALLY_AT + how]++;
            }
        }

        private void tireTeam(int more) {
            for (int f = 0; f < inn.feelings; f++) {
                if (hasPlace(f)) {
                    setTired(f, tiredOf(f) + more);
                }
            }
        }

        /** What being SPILT does to the buckles. */
        void spill() {
            for (int f = 0; f < inn.feelings; f++) {
                if (hasPlace(f)) {
                    setTight(f, tightOf(f) - 3);
                    if (tightOf(f) == 0) {
                        takeOut(f);
                    }
                }
            }
        }

        /** Two PLACES change what they have. */
        void change(int a, int b) {
            int one = whoIsAt(a);
            int other = whoIsAt(b);
            setPlace(one, b);
            setPlace(other, a);
        }
    }

    /** Rows of the coach as they were: ahead of each WORK, and in each IMAGE with its WORKS. */
    private static final class Shelf {
        private static final int WORK_ROWS = WORKS * Coach.SIZE;
        private static final int IMAGE_ROWS = WORK_ROWS + Coach.SIZE;

        private final int[] workRows = new int[WORK_ROWS];
        private final int[] imageRows = new int[IMAGES * IMAGE_ROWS];
        private final int[] imageWorks = new int[IMAGES];
        private int works;
        private int images;

        void clear() {
            works = 0;
            images = 0;
        }

        void keepWork(Coach coach) {
            if (works < WORKS) {
                coach.saveTo(workRows, works * Coach.SIZE);
                works++;
            }
        }

        void takeWork(Coach coach) {
            if (works > 0) {
                works--;
                coach.loadFrom(workRows, works * Coach.SIZE);
            }
        }

        void keepImage(Coach coach) {
            if (images < IMAGES) {
                int from = images * IMAGE_ROWS;
                System.arraycopy(workRows, 0, imageRows, from, WORK_ROWS);
                coach.saveTo(imageRows, from + WORK_ROWS);
                imageWorks[images] = works;
                images++;
            }
        }

        void takeImage(Coach coach) {
            if (images > 0 && images <= IMAGES) {
                images--;
                int from = images * IMAGE_ROWS;
                System.arraycopy(imageRows, from, workRows, 0, WORK_ROWS);
                coach.loadFrom(imageRows, from + WORK_ROWS);
                works = imageWorks[images];
            }
        }
    }

    /** TEAM of each STAGE: all ways are gone through in their order, so the first of alike ones stays. */
    private static final class Search {
        private final int[] forces = new int[PLACES * PLACES * FEELINGS];
        private final int[] taken = new int[PLACES];
        private final int[] best = new int[STAGES * PLACES];
        private final int[] bestStrength = new int[STAGES];
        private final int[] bestTilt = new int[STAGES];
        private int known;

        /** Whatever changes the coach, the HOUSE or the LAW makes what was found worthless. */
        void forget() {
            known = 0;
        }

        int strengthFor(Coach coach, int stage) {
            find(coach, stage);
            return within(stage, 0, STAGES - 1) ? bestStrength[stage] : NONE;
        }

        int tiltFor(Coach coach, int stage) {
            find(coach, stage);
            return within(stage, 0, STAGES - 1) ? bestTilt[stage] : NONE;
        }

        int whoFor(Coach coach, int stage, int place) {
            find(coach, stage);
            return within(stage, 0, STAGES - 1) && isPlace(place) ? best[stage * PLACES + place] : NONE;
        }

        private void find(Coach coach, int stage) {
            if (!within(stage, 0, STAGES - 1) || (known >> stage & 1) == 1) {
                return;
            }
            known |= 1 << stage;
            bestStrength[stage] = NONE;
            bestTilt[stage] = NONE;
            for (int place = 0; place < PLACES; place++) {
                best[stage * PLACES + place] = NONE;
                for (int f = 0; f < FEELINGS; f++) {
                    for (int size = 1; size <= PLACES; size++) {
                        forces[forceIndex(f, place, size)] = coach.forceOf(f, place, size);
                    }
                }
            }
            fillFrom(coach.inn, stage, 0, 0, 0);
        }

        private static int forceIndex(int f, int place, int size) {
            return ((size - 1 & 3) * PLACES + (place & 3)) * FEELINGS + (f & 7);
        }

        private void fillFrom(House inn, int stage, int place, int team, int foes) {
            if (place < 0 || place >= PLACES) {
                compare(inn, stage, Integer.bitCount(team));
                return;
            }
            for (int f = 0; f < inn.feelings; f++) {
                if (((team | foes) >> f & 1) == 0) {
                    taken[place] = f;
                    fillFrom(inn, stage, place + 1, team | 1 << f, foes | inn.foesOf(f));
                }
            }
            taken[place] = NONE;
            fillFrom(inn, stage, place + 1, team, foes);
        }

        private void compare(House inn, int stage, int size) {
            if (size == 0 || !within(stage, 0, STAGES - 1)) {
                return;
            }
            int strength = 0;
            int lean = 0;
            for (int place = 0; place < PLACES; place++) {
                if (taken[place] != NONE) {
                    int force = forces[forceIndex(taken[place], place, size)];
                    strength += force;
                    lean += (place & 1) == 0 ? force : -force;
                }
            }
            int tilt = Math.abs(lean);
            if (strength < bestStrength[stage] || strength == bestStrength[stage] && tilt >= bestTilt[stage]) {
                return;
            }
            if (strength >= inn.leastStrength(stage) && tilt + inn.turnOf(stage) <= inn.bears) {
                bestStrength[stage] = strength;
                bestTilt[stage] = tilt;
                System.arraycopy(taken, 0, best, stage * PLACES, PLACES);
            }
        }
    }

    /** STALLS: the first way by the least number. */
    private static final class Stable {
        private final int[] box = new int[FEELINGS];

        int fill(House inn) {
            for (int many = 0; many <= FEELINGS; many++) {
                if (canFillFrom(inn, 0, many, 0)) {
                    return many;
                }
            }
            return FEELINGS;
        }

        int boxOf(int f) {
            return f >= 0 && f < FEELINGS ? box[f] : NONE;
        }

        private boolean canFillFrom(House inn, int f, int many, int used) {
            if (!inn.isFeeling(f)) {
                return true;
            }
            // A stall beyond the first empty one would only be another name for that one.
            for (int b = 0; b < many && b <= used; b++) {
                if (isPeaceful(inn, f, b)) {
                    box[f] = b;
                    if (canFillFrom(inn, f + 1, many, Math.max(used, b + 1))) {
                        return true;
                    }
                }
            }
            return false;
        }

        private boolean isPeaceful(House inn, int f, int b) {
            for (int g = 0; g < f && g < FEELINGS; g++) {
                if (box[g] == b && (inn.foesOf(f) >> g & 1) == 1) {
                    return false;
                }
            }
            return true;
        }
    }

    /** FITS: how TIRED all would be, for each pair of a STAGE and a FEELING by which the BOOK is right. */
    private static final class Guess {
        private static final int PAIRS = STAGES * PLACES;

        private final int[] tired = new int[PAIRS * FEELINGS];
        private int size;
        private int first;

        void gather(Coach now, Coach trial, Book lines) {
            size = 0;
            first = NONE;
            for (int s = 0; s < now.inn.stages; s++) {
                for (int f = 0; f < now.inn.feelings; f++) {
                    if (now.hasPlace(f)) {
                        trial.copyFrom(now);
                        trial.takeOut(f);
                        if (trial.teamBits() != 0) {
                            trial.driveOver(s);
                        }
                        if (lines.isRight(trial)) {
                            keep(trial, 10 * s + f);
                        }
                    }
                }
            }
        }

        private void keep(Coach trial, int pair) {
            if (size == 0) {
                first = pair;
            }
            if (size < PAIRS) {
                for (int f = 0; f < FEELINGS; f++) {
                    tired[size * FEELINGS + f] = trial.tiredOf(f);
                }
                size++;
            }
        }

        /** How many pairs are left at the worst, were it known how TIRED a FEELING was then. */
        int worst(int f) {
            int worst = 0;
            for (int i = 0; i < size; i++) {
                int alike = 0;
                for (int j = 0; j < size; j++) {
                    if (tiredBy(i, f) == tiredBy(j, f)) {
                        alike++;
                    }
                }
                worst = Math.max(worst, alike);
            }
            return worst;
        }

        private int tiredBy(int pair, int f) {
            return within(pair, 0, PAIRS - 1) && within(f, 0, FEELINGS - 1) ? tired[pair * FEELINGS + f] : 0;
        }
    }
}
