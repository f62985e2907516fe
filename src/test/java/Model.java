import java.math.BigInteger;
import java.nio.charset.StandardCharsets;
import java.util.ArrayDeque;
import java.util.ArrayList;
import java.util.Arrays;
import java.util.Deque;
import java.util.HashMap;
import java.util.List;
import java.util.Map;
import java.util.NoSuchElementException;
import java.util.TreeMap;

/**
 * The document once more, written by itself and slowly, with the whole Java library: what ModelTest holds
 * FeltHarness against. Nothing here is taken from FeltHarness.
 */
final class Model {
    /** A FAULT: which, and where. */
    private static final class Fault extends RuntimeException {
        private static final long serialVersionUID = 1L;
        final int kind;
        final int place;

        Fault(int kind, int place) {
            this.kind = kind;
            this.place = place;
        }
    }

    private interface Value {
        int of(Map<String, Integer> names);
    }

    private interface Step {
        void run(Model m, int[] tally);
    }

    /** A text is cut into words, numbers and single signs first; blanks fall away. */
    private static final class Token {
        final String text;
        final int place;

        Token(String text, int place) {
            this.text = text;
            this.place = place;
        }

        boolean isNumber() {
            return !text.isEmpty() && Character.isDigit(text.charAt(0)) && text.charAt(0) < 128;
        }
    }

    private static final class Tokens {
        final List<Token> list = new ArrayList<>();
        int at;
        int open;

        Tokens(byte[] bytes) {
            String s = new String(bytes, StandardCharsets.ISO_8859_1);
            int i = 0;
            while (i < s.length()) {
                char c = s.charAt(i);
                int j = i + 1;
                if (c >= 'a' && c <= 'z') {
                    while (j < s.length() && s.charAt(j) >= 'a' && s.charAt(j) <= 'z') {
                        j++;
                    }
                } else if (c >= '0' && c <= '9') {
                    while (j < s.length() && s.charAt(j) >= '0' && s.charAt(j) <= '9') {
                        j++;
                    }
                }
                if (c != ' ') {
                    list.add(new Token(s.substring(i, j), i));
                }
                i = j;
            }
            list.add(new Token("", s.length()));
        }

        Token now() {
            return list.get(Math.min(at, list.size() - 1));
        }

        boolean ends() {
            return now().text.isEmpty();
        }

        boolean is(String text) {
            return now().text.equals(text);
        }

        void expect(String text) {
            if (!is(text)) {
                throw new Fault(1, now().place);
            }
            at++;
        }

        int number(int least, int most) {
            Token t = now();
            if (!t.isNumber()) {
                throw new Fault(1, t.place);
            }
            BigInteger v = new BigInteger(t.text);
            if (v.compareTo(BigInteger.valueOf(least)) < 0 || v.compareTo(BigInteger.valueOf(most)) > 0) {
                throw new Fault(2, t.place);
            }
            at++;
            return v.intValue();
        }

        void openOne(int place) {
            open++;
            if (open > 6) {
                throw new Fault(3, place);
            }
        }
    }

    // the house
    private List<int[]> feelings = new ArrayList<>();
    private List<int[]> stages = new ArrayList<>();
    private boolean[][] clash = new boolean[8][8];
    private int bears = 12;
    private Value law = defaultLaw();
    private TreeMap<Integer, Integer> book = new TreeMap<>();

    /** What WORK changes. */
    private static final class State {
        Integer[] at = new Integer[4];
        int[] tight = {5, 5, 5, 5, 5, 5, 5, 5};
        int[] tired = new int[8];
        int day;
        int behind;
        int through;
        int spilt;
        int stuck;

        State copy() {
            State s = new State();
            s.at = at.clone();
            s.tight = tight.clone();
            s.tired = tired.clone();
            s.day = day;
            s.behind = behind;
            s.through = through;
            s.spilt = spilt;
            s.stuck = stuck;
            return s;
        }

        int size() {
            int n = 0;
            for (Integer f : at) {
                n += f == null ? 0 : 1;
            }
            return n;
        }

        int placeOf(int f) {
            return Arrays.asList(at).indexOf(f);
        }
    }

    private static final class Image {
        final State state;
        final List<State> works;

        Image(State state, List<State> works) {
            this.state = state;
            this.works = works;
        }
    }

    private int[] stallsKept;
    private State s = new State();
    private List<State> works = new ArrayList<>();
    private final Deque<Image> images = new ArrayDeque<>();
    private byte[] tape = new byte[0];
    private int faultAt = -1;
    private int refusedByWork;
    private int noSuch;
    private int illegal;

    private static Value defaultLaw() {
        return n -> n.get("pull") + n.get("tight") - n.get("tired") / 4;
    }

    // refusals

    private void feelingOrNot(int f) {
        if (f < 0 || f >= feelings.size()) {
            noSuch++;
            throw new NoSuchElementException();
        }
    }

    private void stageOrNot(int i) {
        if (i < 0 || i >= stages.size()) {
            noSuch++;
            throw new NoSuchElementException();
        }
    }

    private void range(int v, int least, int most) {
        if (v < least || v > most) {
            illegal++;
            throw new IllegalArgumentException();
        }
    }

    // texts

    int feed(int... numbers) {
        if (tape.length + 20 > 600) {
            return -1;
        }
        byte[] longer = Arrays.copyOf(tape, tape.length + 20);
        for (int i = 0; i < 20; i++) {
            longer[tape.length + i] = (byte) (numbers[i / 4] >> (8 * (3 - i % 4)));
        }
        tape = longer;
        return tape.length;
    }

    private Tokens take(int n, int most) {
        range(n, 0, Math.min(most, tape.length));
        byte[] text = Arrays.copyOf(tape, n);
        tape = new byte[0];
        faultAt = -1;
        return new Tokens(text);
    }

    private int failed(Fault f) {
        faultAt = f.place;
        return f.kind - 10;
    }

    int house(int n) {
        Tokens t = take(n, 600);
        Model m = new Model();
        try {
            for (int clauses = 1; !t.ends(); clauses++) {
                m.clause(t, clauses);
                t.expect(";");
            }
        } catch (Fault f) {
            return failed(f);
        }
        feelings = m.feelings;
        stages = m.stages;
        clash = m.clash;
        stallsKept = null;
        bears = m.bears;
        law = defaultLaw();
        book = new TreeMap<>();
        s = new State();
        works = new ArrayList<>();
        images.clear();
        refusedByWork = 0;
        return feelings.size();
    }

    private void clause(Tokens t, int clauses) {
        Token word = t.now();
        boolean many;
        switch (word.text) {
            case "feeling": many = feelings.size() == 8; break;
            case "stage": many = stages.size() == 6; break;
            case "clash": case "bears": many = false; break;
            default: throw new Fault(1, word.place);
        }
        if (many || clauses > 60) {
            throw new Fault(3, word.place);
        }
        t.at++;
        switch (word.text) {
            case "feeling": {
                int p = t.number(1, 20);
                feelings.add(new int[] {p, t.number(0, 9)});
                break;
            }
            case "stage": {
                int l = t.number(1, 60);
                stages.add(new int[] {l, t.number(0, 9)});
                break;
            }
            case "clash": {
                int a = t.number(0, feelings.size() - 1);
                int place = t.now().place;
                int b = t.number(0, feelings.size() - 1);
                if (a == b) {
                    throw new Fault(2, place);
                }
                clash[a][b] = true;
                clash[b][a] = true;
                break;
            }
            default:
                bears = t.number(1, 40);
        }
    }

    int law(int n) {
        Tokens t = take(n, 150);
        try {
            Value v = sum(t);
            if (!t.ends()) {
                throw new Fault(1, t.now().place);
            }
            law = v;
            return 1;
        } catch (Fault f) {
            return failed(f);
        }
    }

    private static Value sum(Tokens t) {
        Value left = product(t);
        while (t.is("+") || t.is("-")) {
            boolean plus = t.is("+");
            t.at++;
            Value a = left;
            Value b = product(t);
            left = plus ? x -> a.of(x) + b.of(x) : x -> a.of(x) - b.of(x);
        }
        return left;
    }

    private static Value product(Tokens t) {
        Value left = unit(t);
        while (t.is("*") || t.is("/") || t.is("%")) {
            String sign = t.now().text;
            t.at++;
            Value a = left;
            Value b = unit(t);
            if (sign.equals("*")) {
                left = x -> a.of(x) * b.of(x);
            } else if (sign.equals("/")) {
                left = x -> b.of(x) == 0 ? 0 : (int) ((long) a.of(x) / b.of(x));
            } else {
                left = x -> b.of(x) == 0 ? 0 : (int) ((long) a.of(x) % b.of(x));
            }
        }
        return left;
    }

    private static final List<String> NAMES =
            List.of("pull", "steady", "tight", "tired", "place", "stage", "team", "day");

    private static Value unit(Tokens t) {
        Token first = t.now();
        if (first.isNumber()) {
            int v = t.number(0, 999);
            return x -> v;
        }
        if (NAMES.contains(first.text)) {
            t.at++;
            return x -> x.get(first.text);
        }
        if (first.text.equals("(")) {
            t.openOne(first.place);
            t.at++;
            Value v = sum(t);
            t.expect(")");
            t.open--;
            return v;
        }
        if (first.text.equals("least") || first.text.equals("most")) {
            t.openOne(first.place);
            t.at++;
            t.expect("[");
            Value a = sum(t);
            t.expect(",");
            Value b = sum(t);
            t.expect("]");
            t.open--;
            return first.text.equals("least") ? x -> Math.min(a.of(x), b.of(x)) : x -> Math.max(a.of(x), b.of(x));
        }
        throw new Fault(1, first.place);
    }

    int work(int n) {
        range(n, 0, Math.min(150, tape.length));
        if (works.size() == 16) {
            tape = new byte[0];
            faultAt = -1;
            return -20;
        }
        Tokens t = take(n, 150);
        List<Step> steps;
        try {
            steps = steps(t, "");
        } catch (Fault f) {
            return failed(f);
        }
        works.add(s.copy());
        int[] tally = new int[3];
        for (Step step : steps) {
            step.run(this, tally);
        }
        refusedByWork = tally[2];
        return tally[1];
    }

    private List<Step> steps(Tokens t, String end) {
        List<Step> list = new ArrayList<>();
        while (!t.is(end)) {
            list.add(step(t));
            t.expect(";");
        }
        return list;
    }

    private interface Deed {
        boolean done(Model m);
    }

    /** tally: begun, done, refused. */
    private static Step plain(Deed deed) {
        return (m, tally) -> {
            if (tally[0] < 200) {
                tally[0]++;
                tally[deed.done(m) ? 1 : 2]++;
            }
        };
    }

    private Step step(Tokens t) {
        Token word = t.now();
        t.at++;
        int last = feelings.size() - 1;
        switch (word.text) {
            case "put": {
                int f = t.number(0, last);
                int p = t.number(0, 3);
                return plain(m -> m.put(f, p));
            }
            case "out": {
                int f = t.number(0, last);
                return plain(m -> m.out(f));
            }
            case "draw": {
                int f = t.number(0, last);
                int v = t.number(0, 9);
                return plain(m -> m.draw(f, v));
            }
            case "drive": return plain(Model::drive);
            case "home": return plain(Model::home);
            case "rest": return plain(m -> m.s.day < 900 && m.rest());
            case "again": {
                t.openOne(word.place);
                int times = t.number(0, 60);
                t.expect("[");
                List<Step> inner = steps(t, "]");
                t.expect("]");
                t.open--;
                return (m, tally) -> {
                    if (tally[0] >= 200) {
                        return;
                    }
                    tally[0]++;
                    for (int i = 0; i < times; i++) {
                        for (Step step : inner) {
                            step.run(m, tally);
                        }
                    }
                };
            }
            default: throw new Fault(1, word.place);
        }
    }

    int book(int n) {
        Tokens t = take(n, 60);
        TreeMap<Integer, Integer> lines = new TreeMap<>();
        try {
            while (!t.ends()) {
                int place = t.now().place;
                int f = t.number(0, feelings.size() - 1);
                if (lines.containsKey(f)) {
                    throw new Fault(2, place);
                }
                lines.put(f, t.number(0, 999));
                t.expect(";");
            }
        } catch (Fault f) {
            return failed(f);
        }
        book = lines;
        return book.size();
    }

    int fault() {
        return faultAt;
    }

    // steps

    private boolean put(int f, int p) {
        if (s.placeOf(f) >= 0 || s.at[p] != null) {
            return false;
        }
        for (Integer g : s.at) {
            if (g != null && clash[f][g]) {
                return false;
            }
        }
        s.at[p] = f;
        return true;
    }

    private boolean out(int f) {
        int p = s.placeOf(f);
        if (p >= 0) {
            s.at[p] = null;
        }
        return p >= 0;
    }

    private boolean draw(int f, int n) {
        boolean other = s.tight[f] != n;
        s.tight[f] = n;
        return other;
    }

    private boolean home() {
        boolean some = s.behind > 0;
        s.behind = 0;
        return some;
    }

    private boolean rest() {
        for (int f = 0; f < feelings.size(); f++) {
            s.tired[f] = Math.max(0, s.tired[f] - (s.placeOf(f) >= 0 ? 1 : 3 + feelings.get(f)[1]));
        }
        s.day++;
        return true;
    }

    private boolean drive() {
        if (s.size() == 0 || s.behind == stages.size()) {
            return false;
        }
        driveThat(s.behind);
        return true;
    }

    private void driveThat(int i) {
        int how = comesTo(i);
        int strength = strength();
        int l = stages.get(i)[0];
        int turn = stages.get(i)[1];
        for (int p = 0; p < 4; p++) {
            Integer f = s.at[p];
            if (f == null) {
                continue;
            }
            int more = how == 0 ? 2 : how == 1 ? 5 : l / strength + 1 + turn / 3;
            s.tired[f] = Math.min(999, s.tired[f] + more);
            if (how == 1) {
                s.tight[f] = Math.max(0, s.tight[f] - 3);
                if (s.tight[f] == 0) {
                    s.at[p] = null;
                }
            }
        }
        if (how == 0) {
            s.stuck++;
        } else if (how == 1) {
            s.spilt++;
        } else {
            s.through++;
            s.behind++;
        }
    }

    private int forceFor(int f, int place, int size) {
        return lawFor(feelings.get(f)[0], feelings.get(f)[1], s.tight[f], s.tired[f], place, s.behind, size, s.day);
    }

    private int lawFor(int... values) {
        Map<String, Integer> names = new HashMap<>();
        for (int i = 0; i < 8; i++) {
            names.put(NAMES.get(i), values[i]);
        }
        return Math.min(60, Math.max(0, law.of(names)));
    }

    private int sideOf(Integer[] places, int side) {
        int size = 0;
        for (Integer f : places) {
            size += f == null ? 0 : 1;
        }
        int sum = 0;
        for (int p = side; p < 4; p += 2) {
            if (places[p] != null) {
                sum += forceFor(places[p], p, size);
            }
        }
        return sum;
    }

    private int strength() {
        return sideOf(s.at, 0) + sideOf(s.at, 1);
    }

    private int tilt(Integer[] places) {
        return Math.abs(sideOf(places, 0) - sideOf(places, 1));
    }

    private int comesTo(int i) {
        return comesTo(i, s.at);
    }

    private int comesTo(int i, Integer[] places) {
        int strength = sideOf(places, 0) + sideOf(places, 1);
        if (strength < stages.get(i)[0] / 3 + 1) {
            return 0;
        }
        return tilt(places) + stages.get(i)[1] > bears ? 1 : 2;
    }

    private int teamBits() {
        int bits = 0;
        for (Integer f : s.at) {
            bits += f == null ? 0 : 1 << f;
        }
        return bits;
    }

    // what is asked

    int undo() {
        if (works.isEmpty()) {
            return -1;
        }
        s = works.remove(works.size() - 1);
        refusedByWork = 0;
        return works.size();
    }

    int told(int what) {
        range(what, 0, 12);
        int[] all = {feelings.size(), stages.size(), s.day, s.behind, teamBits(), strength(), tilt(s.at),
            s.through, s.spilt, s.stuck, book.size(), refusedByWork, bears};
        return all[what];
    }

    private int clashBits(int f) {
        int bits = 0;
        for (int g = 0; g < 8; g++) {
            bits += clash[f][g] ? 1 << g : 0;
        }
        return bits;
    }

    int feeling(int f, int what) {
        feelingOrNot(f);
        range(what, 0, 5);
        int[] all = {feelings.get(f)[0], feelings.get(f)[1], s.placeOf(f), s.tight[f], s.tired[f], clashBits(f)};
        return all[what];
    }

    int stage(int i, int what) {
        stageOrNot(i);
        range(what, 0, 2);
        return what < 2 ? stages.get(i)[what] : s.behind > i ? 1 : 0;
    }

    int at(int p) {
        range(p, 0, 3);
        return s.at[p] == null ? -1 : s.at[p];
    }

    int force(int f, int p) {
        feelingOrNot(f);
        range(p, 0, 3);
        return forceFor(f, p, s.size());
    }

    int would(int... v) {
        int[] least = {1, 0, 0, 0, 0, 0, 0, 0};
        int[] most = {20, 9, 9, 999, 3, 6, 4, 900};
        for (int i = 0; i < 8; i++) {
            range(v[i], least[i], most[i]);
        }
        return lawFor(v);
    }

    int comes(int i) {
        stageOrNot(i);
        return s.size() == 0 ? -1 : comesTo(i);
    }

    int journey() {
        State kept = s;
        s = s.copy();
        int before = s.through;
        int count = 0;
        while (s.size() > 0 && s.behind < stages.size()) {
            drive();
            if (s.through - before == count) {
                break;
            }
            count++;
        }
        s = kept;
        return count;
    }

    int waits() {
        if (s.size() == 0 || s.behind == stages.size()) {
            return -1;
        }
        State kept = s;
        s = s.copy();
        int found = -1;
        for (int n = 0; n <= 99 && found < 0; n++) {
            if (comesTo(s.behind) == 2) {
                found = n;
            }
            rest();
        }
        s = kept;
        return found;
    }

    /** All ways as numbers to base 9, the first place highest, none being 8: the least number is the first way. */
    private Integer[] bestFor(int i) {
        Integer[] best = null;
        int bestStrength = -1;
        int bestTilt = -1;
        for (int code = 0; code < 9 * 9 * 9 * 9; code++) {
            Integer[] way = new Integer[4];
            int left = code;
            boolean can = true;
            int size = 0;
            for (int p = 3; p >= 0; p--) {
                int f = left % 9;
                left /= 9;
                if (f == 8) {
                    continue;
                }
                if (f >= feelings.size()) {
                    can = false;
                    break;
                }
                way[p] = f;
                size++;
                for (int q = p + 1; q < 4; q++) {
                    can &= way[q] == null || way[q] != f && !clash[f][way[q]];
                }
            }
            if (!can || size == 0 || comesTo(i, way) != 2) {
                continue;
            }
            int strength = sideOf(way, 0) + sideOf(way, 1);
            int tilt = tilt(way);
            if (strength > bestStrength || strength == bestStrength && tilt < bestTilt) {
                best = way;
                bestStrength = strength;
                bestTilt = tilt;
            }
        }
        return best;
    }

    int team(int i, int what) {
        stageOrNot(i);
        range(what, 0, 1);
        Integer[] best = bestFor(i);
        return best == null ? -1 : what == 0 ? sideOf(best, 0) + sideOf(best, 1) : tilt(best);
    }

    int stands(int i, int p) {
        stageOrNot(i);
        range(p, 0, 3);
        Integer[] best = bestFor(i);
        return best == null || best[p] == null ? -1 : best[p];
    }

    /** All ways by so many stalls as numbers to that base: the least number is the first way. */
    private int[] stallsFor() {
        if (stallsKept == null) {
            stallsKept = stallsAnew();
        }
        return stallsKept;
    }

    private int[] stallsAnew() {
        int n = feelings.size();
        for (int many = 0; ; many++) {
            long codes = 1;
            for (int f = 0; f < n; f++) {
                codes *= many;
            }
            for (long code = 0; code < codes; code++) {
                int[] way = new int[n + 1];
                way[n] = many;
                long left = code;
                boolean can = true;
                for (int f = n - 1; f >= 0; f--) {
                    way[f] = (int) (left % many);
                    left /= many;
                    for (int g = f + 1; g < n; g++) {
                        can &= !clash[f][g] || way[f] != way[g];
                    }
                }
                if (can) {
                    return way;
                }
            }
        }
    }

    int stalls() {
        return stallsFor()[feelings.size()];
    }

    int stall(int f) {
        feelingOrNot(f);
        return stallsFor()[f];
    }

    int swap(int what) {
        range(what, 0, 1);
        int best = -1;
        int least = Integer.MAX_VALUE;
        for (int a = 0; a < 4; a++) {
            for (int b = a + 1; b < 4; b++) {
                Integer[] other = s.at.clone();
                other[a] = s.at[b];
                other[b] = s.at[a];
                if (tilt(other) < least) {
                    least = tilt(other);
                    best = 10 * a + b;
                }
            }
        }
        return least >= tilt(s.at) ? -1 : what == 0 ? best : least;
    }

    /** Each right pair, with how tired all are by it. */
    private TreeMap<Integer, int[]> rightPairs() {
        TreeMap<Integer, int[]> right = new TreeMap<>();
        State kept = s;
        for (int i = 0; i < stages.size(); i++) {
            for (int f = 0; f < feelings.size(); f++) {
                if (kept.placeOf(f) < 0) {
                    continue;
                }
                s = kept.copy();
                out(f);
                if (s.size() > 0) {
                    driveThat(i);
                }
                boolean all = true;
                for (Map.Entry<Integer, Integer> line : book.entrySet()) {
                    all &= s.tired[line.getKey()] == line.getValue();
                }
                if (all) {
                    right.put(10 * i + f, s.tired);
                }
            }
        }
        s = kept;
        return right;
    }

    int fits(int what) {
        range(what, 0, 1);
        TreeMap<Integer, int[]> right = rightPairs();
        return what == 0 ? right.size() : right.isEmpty() ? -1 : right.firstKey();
    }

    int look(int what) {
        range(what, 0, 1);
        int best = -1;
        int fewest = -1;
        for (int f = feelings.size() - 1; f >= 0; f--) {
            if (book.containsKey(f)) {
                continue;
            }
            Map<Integer, Integer> groups = new HashMap<>();
            int worst = 0;
            for (int[] tired : rightPairs().values()) {
                worst = Math.max(worst, groups.merge(tired[f], 1, Integer::sum));
            }
            if (best < 0 || worst <= fewest) {
                best = f;
                fewest = worst;
            }
        }
        return what == 0 ? best : fewest;
    }

    int thumb(int v, int w, int what) {
        range(v, 0, 99);
        range(w, 0, 99);
        range(what, 0, 2);
        int[][] one = {{w, 0}, {v, -w}};
        int[][] other = {{w, v}, {0, -w}};
        List<Integer> rests = new ArrayList<>();
        for (int a = 0; a < 2; a++) {
            for (int b = 0; b < 2; b++) {
                if (one[1 - a][b] <= one[a][b] && other[a][1 - b] <= other[a][b]) {
                    rests.add(10 * a + b);
                }
            }
        }
        if (what == 0) {
            return rests.size();
        }
        if (rests.isEmpty()) {
            return what == 1 ? -1 : 0;
        }
        int first = rests.get(0);
        return what == 1 ? first : one[first / 10][first % 10] + other[first / 10][first % 10];
    }

    /** chance[j]: by how many of 16^n ways it does not shy at j of n, one wet after the other. */
    long steady(int n, int k, int q, int part) {
        range(n, 0, 12);
        range(k, 0, 13);
        range(q, 0, 16);
        range(part, 0, 1);
        BigInteger[] chance = new BigInteger[15];
        Arrays.fill(chance, BigInteger.ZERO);
        chance[0] = BigInteger.ONE;
        for (int i = 0; i < n; i++) {
            for (int j = 13; j >= 0; j--) {
                BigInteger shied = chance[j].multiply(BigInteger.valueOf(q));
                BigInteger not = j == 0 ? BigInteger.ZERO : chance[j - 1].multiply(BigInteger.valueOf(16 - q));
                chance[j] = shied.add(not);
            }
        }
        BigInteger above = BigInteger.ZERO;
        for (int j = k; j <= 13; j++) {
            above = above.add(chance[j]);
        }
        BigInteger below = BigInteger.valueOf(16).pow(n);
        BigInteger shared = above.gcd(below);
        return (part == 0 ? above : below).divide(shared).longValueExact();
    }

    int oats(int f, int bits, int n) {
        feelingOrNot(f);
        for (int b = 0; b < 32; b++) {
            if (b >= feelings.size() && (bits >>> b & 1) == 1) {
                range(1, 0, 0);
            }
        }
        range(n, 0, 9999);
        int[] given = new int[8];
        for (int bound = 0; bound <= 999; bound++) {
            int[] share = new int[8];
            int sum = 0;
            for (int g = 0; g < feelings.size(); g++) {
                if ((bits >>> g & 1) == 1) {
                    share[g] = Math.min(bound, s.tired[g]);
                    sum += share[g];
                }
            }
            if (sum <= n) {
                given = share;
            }
        }
        return given[f];
    }

    int weariest(int what) {
        range(what, 0, 1);
        for (int v = 999; v >= 0; v--) {
            for (int f = 0; f < feelings.size(); f++) {
                if (s.tired[f] == v) {
                    return what == 0 ? f : v;
                }
            }
        }
        return -1;
    }

    int loosest(int what) {
        range(what, 0, 1);
        for (int v = 0; v <= 9; v++) {
            for (int f = 0; f < feelings.size(); f++) {
                if (s.tight[f] == v && s.placeOf(f) >= 0) {
                    return what == 0 ? f : v;
                }
            }
        }
        return -1;
    }

    int willing(int p) {
        range(p, 0, 3);
        int bits = 0;
        State kept = s;
        for (int f = 0; f < feelings.size(); f++) {
            s = kept.copy();
            bits += put(f, p) ? 1 << f : 0;
        }
        s = kept;
        return bits;
    }

    int clashes(int what) {
        range(what, 0, 1);
        int twos = 0;
        int[] many = new int[8];
        for (int a = 0; a < 8; a++) {
            for (int b = a + 1; b < 8; b++) {
                if (clash[a][b]) {
                    twos++;
                    many[a]++;
                    many[b]++;
                }
            }
        }
        if (what == 0) {
            return twos;
        }
        for (int v = 7; v > 0; v--) {
            for (int f = 0; f < 8; f++) {
                if (many[f] == v) {
                    return f;
                }
            }
        }
        return -1;
    }

    int open() {
        int bits = 0;
        for (int i = 0; i < stages.size(); i++) {
            bits += s.size() > 0 && comesTo(i) == 2 ? 1 << i : 0;
        }
        return bits;
    }

    int lost() {
        int bits = 0;
        for (Integer f : s.at) {
            bits += f != null && s.tight[f] <= 3 ? 1 << f : 0;
        }
        return bits;
    }

    int rested(int f, int n) {
        feelingOrNot(f);
        range(n, 0, 99);
        State kept = s;
        s = s.copy();
        for (int i = 0; i < n; i++) {
            rest();
        }
        int tired = s.tired[f];
        s = kept;
        return tired;
    }

    int side(int side) {
        range(side, 0, 1);
        return sideOf(s.at, side);
    }

    int needs(int i) {
        stageOrNot(i);
        int more = 0;
        while (strength() + more < stages.get(i)[0] / 3 + 1) {
            more++;
        }
        return more;
    }

    int pairs(int f) {
        feelingOrNot(f);
        int bits = 0;
        for (int g = 0; g < feelings.size(); g++) {
            bits += g != f && !clash[f][g] ? 1 << g : 0;
        }
        return bits;
    }

    int length(int what) {
        range(what, 0, 1);
        int sum = 0;
        for (int i = what == 0 ? 0 : s.behind; i < (what == 0 ? s.behind : stages.size()); i++) {
            sum += stages.get(i)[0];
        }
        return sum;
    }

    private long seed;

    private int drawn(int by) {
        seed = (seed * 1103515245L + 12345L) & 0xffffffffL;
        return (int) (seed / 65536 % 32768 % by);
    }

    private State seasonBy(int seedFirst, int days, int q) {
        State kept = s;
        s = s.copy();
        s.through = 0;
        s.spilt = 0;
        s.stuck = 0;
        seed = seedFirst & 0xffffffffL;
        for (int i = 0; i < days; i++) {
            if (!feelings.isEmpty()) {
                int f = drawn(feelings.size());
                if (!out(f)) {
                    put(f, drawn(4));
                }
            }
            if (drawn(16) < q) {
                if (s.behind == stages.size()) {
                    home();
                } else {
                    drive();
                }
            }
            rest();
        }
        State then = s;
        s = kept;
        return then;
    }

    private static int bitsOf(State state) {
        int bits = 0;
        for (Integer f : state.at) {
            bits += f == null ? 0 : 1 << f;
        }
        return bits;
    }

    int season(int seedFirst, int days, int q, int what) {
        range(days, 1, 96);
        range(q, 0, 16);
        range(what, 0, 3);
        State then = seasonBy(seedFirst, days, q);
        return new int[] {then.through, then.spilt, then.stuck, bitsOf(then)}[what];
    }

    int span(int seedFirst, int many, int days, int q, int what, int f) {
        range(many, 1, 20);
        range(days, 1, 96);
        range(q, 0, 16);
        range(what, 0, 2);
        range(f, 0, feelings.size() - 1);
        int fewest = Integer.MAX_VALUE;
        int most = 0;
        int within = 0;
        for (int i = 0; i < many; i++) {
            State then = seasonBy(seedFirst + i, days, q);
            fewest = Math.min(fewest, then.through);
            most = Math.max(most, then.through);
            within += bitsOf(then) >> f & 1;
        }
        return new int[] {fewest, most, within}[what];
    }

    int image() {
        if (images.size() == 3) {
            return -1;
        }
        List<State> kept = new ArrayList<>();
        for (State w : works) {
            kept.add(w.copy());
        }
        images.push(new Image(s.copy(), kept));
        return images.size();
    }

    int restore() {
        if (images.isEmpty()) {
            return -1;
        }
        Image i = images.pop();
        s = i.state;
        works = i.works;
        refusedByWork = 0;
        return images.size();
    }

    int status(int what) {
        return what == 0 ? noSuch : what == 1 ? illegal : -1;
    }

    int count(int what) {
        return what == 0 ? images.size() : what == 1 ? tape.length : what == 2 ? works.size() : -1;
    }
}
