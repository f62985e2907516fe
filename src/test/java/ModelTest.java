import java.nio.charset.StandardCharsets;
import java.util.Arrays;
import java.util.NoSuchElementException;
import java.util.Random;

/** Many runs of drawn calls: FeltHarness must answer, and throw, as Model does. -Druns=N tells how many runs. */
public final class ModelTest {
    private interface Ask {
        long answer();
    }

    private static int wrong;

    private final Random random;
    private final int run;
    private final FeltHarness x = new FeltHarness();
    private final Model m = new Model();
    private int calls;

    private ModelTest(int run) {
        this.run = run;
        this.random = new Random(run * 7919L + 17);
    }

    public static void main(String[] args) {
        int runs = Integer.getInteger("runs", 500);
        int from = Integer.getInteger("from", 0);
        for (int i = from; i < from + runs && wrong < 20; i++) {
            new ModelTest(i).play();
        }
        System.out.println(runs + " runs against the model, " + wrong + " answers wrong");
        if (wrong != 0) {
            System.exit(1);
        }
    }

    private static String outcome(Ask ask) {
        try {
            return Long.toString(ask.answer());
        } catch (NoSuchElementException e) {
            return "NoSuchElementException";
        } catch (IllegalArgumentException e) {
            return e.getClass() == IllegalArgumentException.class ? "IllegalArgumentException" : e.toString();
        } catch (RuntimeException e) {
            return e.toString();
        }
    }

    private String same(String call, Ask got, Ask due) {
        calls++;
        String g = outcome(got);
        String d = outcome(due);
        if (!g.equals(d)) {
            wrong++;
            System.out.println("run " + run + ", call " + calls + ": " + call + " answered " + g + ", the model " + d);
        }
        return d;
    }

    private int below(int n) {
        return random.nextInt(n);
    }

    /** Mostly least to most, now and then just outside or far off. */
    private int near(int least, int most) {
        switch (below(25)) {
            case 0: return least - 1;
            case 1: return most + 1;
            case 2: return below(2) == 0 ? Integer.MAX_VALUE : Integer.MIN_VALUE;
            default: return least + below(most - least + 1);
        }
    }

    private int someFeeling() {
        return near(0, Math.max(0, m.told(0) - 1));
    }

    private int someStage() {
        return near(0, Math.max(0, m.told(1) - 1));
    }

    private void play() {
        if (below(8) != 0) {
            tellHouse(false);
        }
        // With what one turn and the end ask, an object stays within its 512 calls.
        while (calls < 400) {
            one(below(70));
        }
        for (int i = -1; i <= 3; i++) {
            int what = i;
            same("status " + i, () -> x.status(what), () -> m.status(what));
            same("count " + i, () -> x.count(what), () -> m.count(what));
        }
        everything();
    }

    private void everything() {
        for (int i = -1; i <= 13; i++) {
            int what = i;
            same("told " + i, () -> x.told(what), () -> m.told(what));
        }
        for (int f = 0; f < 8; f++) {
            for (int i = 0; i <= 6; i++) {
                int who = f;
                int what = i;
                same("feeling " + f + " " + i, () -> x.feeling(who, what), () -> m.feeling(who, what));
            }
        }
    }

    /** What is kept of an answer must not outlive a change. */
    private void askTeam() {
        if (below(4) == 0) {
            int s = below(2) == 0 ? 0 : someStage();
            int p = below(4);
            same("team " + s, () -> x.team(s, 0), () -> m.team(s, 0));
            same("stands " + s + " " + p, () -> x.stands(s, p), () -> m.stands(s, p));
        }
    }

    private void one(int which) {
        int a = below(2) == 0 ? below(2) : near(0, 1);
        int p = near(0, 3);
        int f = someFeeling();
        int s = someStage();
        switch (which) {
            case 0: if (below(6) == 0) { tellHouse(below(3) == 0); } break;
            case 1: case 2: case 3: tellLaw(); break;
            case 4: case 5: case 6: case 7: case 8: case 9: case 10: case 11: case 12: case 13: tellWork(); break;
            case 14: case 15: case 16: case 17: tellBook(); break;
            case 18: case 19: same("undo", x::undo, m::undo); askTeam(); break;
            case 20: same("image", x::image, m::image); break;
            case 21: if (below(2) == 0) { same("restore", x::restore, m::restore); askTeam(); } break;
            case 22: same("fault", x::fault, m::fault); break;
            case 23: case 24: { int w = near(0, 12); same("told " + w, () -> x.told(w), () -> m.told(w)); break; }
            case 25: case 26: { int w = near(0, 5);
                same("feeling " + f + " " + w, () -> x.feeling(f, w), () -> m.feeling(f, w)); break; }
            case 27: { int w = near(0, 2); same("stage " + s + " " + w, () -> x.stage(s, w), () -> m.stage(s, w)); break; }
            case 28: same("at " + p, () -> x.at(p), () -> m.at(p)); break;
            case 29: case 30: same("force " + f + " " + p, () -> x.force(f, p), () -> m.force(f, p)); break;
            case 31: case 32: askWould(); break;
            case 33: same("comes " + s, () -> x.comes(s), () -> m.comes(s)); break;
            case 34: case 35: same("journey", x::journey, m::journey); break;
            case 36: case 37: same("waits", x::waits, m::waits); break;
            case 38: if (below(3) == 0) { same("team " + s + " " + a, () -> x.team(s, a), () -> m.team(s, a)); } break;
            case 39: if (below(2) == 0) { same("stands " + s + " " + p, () -> x.stands(s, p), () -> m.stands(s, p)); } break;
            case 40: same("stalls", x::stalls, m::stalls); break;
            case 41: same("stall " + f, () -> x.stall(f), () -> m.stall(f)); break;
            case 42: case 43: case 44: same("swap " + a, () -> x.swap(a), () -> m.swap(a)); break;
            case 45: case 46: case 47: same("fits " + a, () -> x.fits(a), () -> m.fits(a)); break;
            case 48: case 49: same("look " + a, () -> x.look(a), () -> m.look(a)); break;
            case 50: { int v = near(0, 99); int w = near(0, 99); int t = near(0, 2);
                same("thumb " + v + " " + w + " " + t, () -> x.thumb(v, w, t), () -> m.thumb(v, w, t)); break; }
            case 51: case 52: { int n = near(0, 12); int k = near(0, 13); int q = near(0, 16);
                same("steady " + n + " " + k + " " + q + " " + a, () -> x.steady(n, k, q, a), () -> m.steady(n, k, q, a)); break; }
            case 53: case 54: askOats(); break;
            case 55: same("weariest " + a, () -> x.weariest(a), () -> m.weariest(a)); break;
            case 56: same("loosest " + a, () -> x.loosest(a), () -> m.loosest(a)); break;
            case 57: same("willing " + p, () -> x.willing(p), () -> m.willing(p)); break;
            case 58: same("clashes " + a, () -> x.clashes(a), () -> m.clashes(a)); break;
            case 59: same("open", x::open, m::open); break;
            case 60: same("lost", x::lost, m::lost); break;
            case 61: { int n = near(0, 99); same("rested " + f + " " + n, () -> x.rested(f, n), () -> m.rested(f, n)); break; }
            case 62: same("side " + a, () -> x.side(a), () -> m.side(a)); break;
            case 63: same("needs " + s, () -> x.needs(s), () -> m.needs(s)); break;
            case 64: same("pairs " + f, () -> x.pairs(f), () -> m.pairs(f)); break;
            case 65: same("length " + a, () -> x.length(a), () -> m.length(a)); break;
            case 66: case 67: { int seed = random.nextInt(); int d = near(1, 96); int q = near(0, 16); int w = near(0, 3);
                same("season " + seed + " " + d + " " + q + " " + w, () -> x.season(seed, d, q, w), () -> m.season(seed, d, q, w)); break; }
            case 68: if (below(2) == 0) { askSpan(f); } break;
            default: { int w = near(0, 2); same("count " + w, () -> x.count(w), () -> m.count(w));
                same("status " + w, () -> x.status(w), () -> m.status(w)); }
        }
    }

    private void askWould() {
        int[] v = {near(1, 20), near(0, 9), near(0, 9), near(0, 999), near(0, 3), near(0, 6), near(0, 4), near(0, 900)};
        same("would " + Arrays.toString(v), () -> x.would(v[0], v[1], v[2], v[3], v[4], v[5], v[6], v[7]), () -> m.would(v));
    }

    private void askOats() {
        int f = someFeeling();
        int bits = below(1 << m.told(0));
        if (below(9) == 0) {
            bits = below(2) == 0 ? random.nextInt() : 1 << below(32);
        }
        int b = bits;
        int n = below(2) == 0 ? near(0, 9999) : below(60);
        same("oats " + f + " " + b + " " + n, () -> x.oats(f, b, n), () -> m.oats(f, b, n));
    }

    private void askSpan(int f) {
        int seed = below(3) == 0 ? Integer.MAX_VALUE - below(5) : random.nextInt();
        int many = near(1, 20);
        int d = near(1, 96);
        int q = near(0, 16);
        int w = near(0, 2);
        same("span " + seed + " " + many + " " + d + " " + q + " " + w + " " + f,
                () -> x.span(seed, many, d, q, w, f), () -> m.span(seed, many, d, q, w, f));
    }

    /** Puts a text on the tape, with whatever behind it, and answers which n tells all of it. */
    private int feed(String text) {
        byte[] bytes = text.getBytes(StandardCharsets.ISO_8859_1);
        int before = m.count(1);
        byte[] padded = Arrays.copyOf(bytes, (bytes.length + 19) / 20 * 20);
        for (int i = bytes.length; i < padded.length; i++) {
            padded[i] = (byte) "; 1a]".charAt(below(5));
        }
        for (int i = 0; i < padded.length; i += 20) {
            int[] v = new int[5];
            for (int j = 0; j < 20; j++) {
                v[j / 4] = v[j / 4] << 8 | padded[i + j] & 255;
            }
            same("feed", () -> x.feed(v[0], v[1], v[2], v[3], v[4]), () -> m.feed(v));
        }
        int n = before + bytes.length;
        switch (below(90)) {
            case 0: return n + 1 + below(30);
            case 1: return -1 - below(3);
            case 2: return Math.max(0, n - 1 - below(5));
            default: return n;
        }
    }

    private String gaps() {
        return below(6) == 0 ? "  ".substring(below(2)) : "";
    }

    /** Blanks come between all, and now and then a byte is another, too many or gone. */
    private String worn(String text, boolean often) {
        StringBuilder b = new StringBuilder(text);
        if (often || below(6) == 0) {
            String signs = " ;[](),+-*/%0159agnpXZ" + (char) 233 + (char) 0 + "\n";
            for (int k = below(3); k >= 0 && b.length() > 0; k--) {
                int i = below(b.length());
                char c = signs.charAt(below(signs.length()));
                switch (below(4)) {
                    case 0: b.setCharAt(i, c); break;
                    case 1: b.insert(i, c); break;
                    case 2: b.deleteCharAt(i); break;
                    default: b.setLength(i);
                }
            }
        }
        return b.toString();
    }

    private void tellHouse(boolean broken) {
        StringBuilder b = new StringBuilder();
        int feelings = below(5) == 0 ? below(9) : 3 + below(6);
        int stages = below(5) == 0 ? below(7) : 2 + below(5);
        int peace = 1 + below(4);
        for (int i = 0; i < feelings; i++) {
            b.append(gaps()).append("feeling ").append(1 + below(20)).append(gaps()).append(' ').append(below(10));
            b.append(gaps()).append(';');
            for (int k = peace == 1 ? 3 : 1; i > 0 && k > 0 && below(peace) == 0; k--) {
                int one = below(i + 1);
                int two = (one + 1 + below(i)) % (i + 1);
                b.append("clash ").append(one).append(' ').append(two).append(';');
            }
        }
        for (int i = 0; i < stages; i++) {
            b.append("stage").append(gaps()).append(below(3) == 0 ? 1 + below(12) : 1 + below(60)).append(' ');
            b.append(below(10)).append(';').append(gaps());
        }
        if (below(3) != 0) {
            b.append("bears").append(gaps()).append(8 + below(33)).append(';').append(gaps());
        }
        if (broken && below(3) == 0) {
            for (int i = 0; i < 45 + below(20) && b.length() < 560; i++) {
                b.append("bears9;");
            }
        }
        String text = worn(b.toString(), broken);
        int n = feed(text);
        same("house(" + n + ") of " + text, () -> x.house(n), () -> m.house(n));
        askTeam();
        same("fault", x::fault, m::fault);
    }

    private String expression(int depth) {
        StringBuilder b = new StringBuilder();
        int terms = 1 + below(3);
        for (int i = 0; i < terms; i++) {
            if (i > 0) {
                b.append(gaps()).append("+-*/%".charAt(below(5))).append(gaps());
            }
            b.append(unit(depth));
        }
        return b.toString();
    }

    private String unit(int depth) {
        String[] names = {"pull", "steady", "tight", "tired", "place", "stage", "team", "day"};
        int kind = below(depth <= 0 ? 7 : 10);
        if (kind < 2) {
            return Integer.toString(below(4) == 0 ? below(1000) : below(12));
        }
        if (kind < 7) {
            return names[below(8)];
        }
        if (kind == 7) {
            return "(" + expression(depth - 1) + gaps() + ")";
        }
        return (kind == 8 ? "least" : "most") + gaps() + "[" + expression(depth - 1) + "," + expression(depth - 1) + "]";
    }

    private void tellLaw() {
        String text;
        if (below(10) == 0) {
            int deep = 4 + below(5);
            text = "(".repeat(deep) + "least[1,2]" + ")".repeat(deep);
            if (below(2) == 0) {
                text = "least[".repeat(deep) + "day" + ",team]".repeat(deep);
            }
        } else if (below(12) == 0) {
            text = "999*999*999*999*(0-7)/(pull-10)%(1-tight)";
        } else if (below(3) == 0) {
            text = "pull+steady+tight-tired/" + (1 + below(4)) + "+" + expression(1);
        } else {
            text = expression(below(4));
        }
        if (text.length() > 150) {
            text = "pull+tight-place*team";
        }
        text = worn(text, false);
        int n = feed(text);
        same("law(" + n + ") of " + text, () -> x.law(n), () -> m.law(n));
        askTeam();
        same("fault", x::fault, m::fault);
    }

    private String step(int depth) {
        int f = below(Math.max(1, m.told(0)));
        switch (below(depth < 3 ? 12 : 11)) {
            case 0: case 1: case 2: case 3: return "put " + f + gaps() + " " + below(4) + ";";
            case 4: return "out" + gaps() + f + ";";
            case 5: return "draw " + f + " " + below(10) + ";";
            case 6: case 7: case 8: return "drive" + gaps() + ";";
            case 9: return below(2) == 0 ? "home;" : "drive;";
            case 10: return "rest;" + gaps();
            default: {
                StringBuilder b = new StringBuilder("again ").append(below(3) == 0 ? below(61) : below(5)).append("[");
                for (int i = below(4); i > 0; i--) {
                    b.append(step(depth + 1));
                }
                return b.append("]").append(gaps()).append(";").toString();
            }
        }
    }

    private void tellWork() {
        StringBuilder b = new StringBuilder();
        for (int i = below(12); i > 0; i--) {
            String next = step(0);
            if (b.length() + next.length() <= 150) {
                b.append(next);
            }
        }
        if (below(12) == 0) {
            int deep = 5 + below(4);
            b = new StringBuilder("again 2[".repeat(deep) + "rest;" + "];".repeat(deep));
        }
        if (below(15) == 0) {
            b = new StringBuilder("again 60[rest;rest;rest;];");
        }
        String text = worn(b.toString(), false);
        int n = feed(text);
        same("work(" + n + ") of " + text, () -> x.work(n), () -> m.work(n));
        askTeam();
        same("fault", x::fault, m::fault);
        if (below(2) == 0) {
            same("told 11", () -> x.told(11), () -> m.told(11));
        }
        if (m.count(2) > 13) {
            for (int i = below(14); i > 0; i--) {
                same("undo", x::undo, m::undo);
            }
        }
    }

    private void tellBook() {
        StringBuilder b = new StringBuilder();
        for (int f = 0; f < m.told(0); f++) {
            if (below(3) == 0) {
                int tired = m.feeling(f, 4) + (m.feeling(f, 2) >= 0 && below(4) > 0 ? below(6) : 0);
                b.append(gaps()).append(f).append(' ').append(tired).append(gaps()).append(';');
            }
        }
        String text = worn(b.toString(), false);
        int n = feed(text);
        same("book(" + n + ") of " + text, () -> x.book(n), () -> m.book(n));
        same("fault", x::fault, m::fault);
        same("fits 0", () -> x.fits(0), () -> m.fits(0));
        same("look 0", () -> x.look(0), () -> m.look(0));
        same("look 1", () -> x.look(1), () -> m.look(1));
    }
}
