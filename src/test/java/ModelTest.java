import java.util.Random;

/** Long runs of drawn calls, wild numbers among them, held against the naive school. */
public final class ModelTest {
    private static final int RUNS = 2500, CALLS = 512;
    private static final int[] WILD = {-1, -2, 4, 6, 7, 9, 16, 24, 25, 60, 61, 96, 97, 98, 127, 128, 255, 256, 65536,
        Integer.MAX_VALUE, Integer.MIN_VALUE, Integer.MAX_VALUE - 2, -97};

    private final Random draw;
    private final TaughtHours x = new TaughtHours();
    private final NaiveSchool y = new NaiveSchool();
    private final int wildness;
    private String call = "";

    private ModelTest(int run) {
        draw = new Random(run);
        wildness = run % 3 == 0 ? 12 : 80;
    }

    public static void main(String[] args) {
        int runs = args.length > 0 ? Integer.parseInt(args[0]) : RUNS;
        for (int run = 0; run < runs; run++) {
            ModelTest one = new ModelTest(run);
            for (int i = 0; i < CALLS; i++) one.step("run " + run + " call " + i + " ");
        }
        Check.end();
    }

    private int below(int n) {
        if (draw.nextInt(wildness) == 0) return WILD[draw.nextInt(WILD.length)];
        return n <= 0 ? 0 : draw.nextInt(n);
    }

    private int kid() { return below(x.count(0)); }
    private int thing() { return below(4); }

    private void step(String where) {
        int op = draw.nextInt(36);
        int got, want;
        switch (op) {
            case 0: { int k = below(4); if (draw.nextInt(3) > 0) return; got = x.child(k); want = y.child(k); call = "child " + k; break; }
            case 1: case 2: { int c = kid(), t = thing(), s = says(); got = x.know(c, t, s); want = y.know(c, t, s); call = "know " + c + " " + t + " " + s; break; }
            case 3: { int t = thing(), s = draw.nextInt(2) == 0 ? 0 : below(16); got = x.need(t, s); want = y.need(t, s); call = "need " + t + " " + s; break; }
            case 4: case 5: { int a = kid(), b = kid(); boolean is = draw.nextInt(3) > 0; got = x.hears(a, b, is); want = y.hears(a, b, is); call = "hears " + a + " " + b + " " + is; break; }
            case 6: case 7: { int c = kid(), w = below(7); got = x.told(c, w); want = y.told(c, w); call = "told " + c + " " + w; break; }
            case 8: { int c = kid(), v = below(97); got = x.passes(c, v); want = y.passes(c, v); call = "passes " + c + " " + v; break; }
            case 9: { long w = draw.nextLong() & (draw.nextInt(4) == 0 ? -1L : 0x3f3f3f3f3f3f3f3fL) | 0x2020202020202020L; int n = below(9); got = x.type(w, n); want = y.type(w, n); call = "type " + w + " " + n; break; }
            case 10: case 11: text(where, schoolText()); got = x.school(); want = y.school(); call = "school"; break;
            case 12: case 13: text(where, planText()); got = x.plan(); want = y.plan(); call = "plan"; break;
            case 14: { int w = below(6); got = x.count(w); want = y.count(w); call = "count " + w; break; }
            case 15: { int a = kid(), b = kid(), t = thing(); got = x.may(a, b, t); want = y.may(a, b, t); call = "may " + a + b + t; break; }
            case 16: { int a = kid(), b = kid(), t = thing(); got = x.teach(a, b, t); want = y.teach(a, b, t); call = "teach " + a + b + t; break; }
            case 17: got = x.run(); want = y.run(); call = "run"; break;
            case 18: case 19: { int s = below(16); if (y.count(0) == 6 && draw.nextInt(30) > 0 && s > 0 && Integer.bitCount(s) == 2) return; got = x.hours(s); want = y.hours(s); call = "hours " + s; break; }
            case 20: { int s = below(16); got = x.bound(s); want = y.bound(s); call = "bound " + s; break; }
            case 21: case 22: got = x.spared(); want = y.spared(); call = "spared"; break;
            case 23: { int s = below(16), i = below(4); got = x.order(s, i); want = y.order(s, i); call = "order " + s + " " + i; break; }
            case 24: { int t = thing(), w = below(2); got = x.mouths(t, w); want = y.mouths(t, w); call = "mouths " + t + w; break; }
            case 25: { int t = thing(), c = kid(); got = x.from(t, c); want = y.from(t, c); call = "from " + t + c; break; }
            case 26: { int n = draw.nextInt(3) > 0 ? 1 + draw.nextInt(4) : below(61); got = x.lessons(n); want = y.lessons(n); call = "lessons " + n; break; }
            case 27: { int v = draw.nextInt(); got = x.seed(v); want = y.seed(v); call = "seed " + v; break; }
            case 28: if (draw.nextInt(3) > 0) return; got = x.image(); want = y.image(); call = "image"; break;
            case 29: if (draw.nextInt(3) > 0) return; got = x.restore(); want = y.restore(); call = "restore"; break;
            case 30: { int s = below(4), l = below(3), f = below(12), n = below(4); got = x.hour(s, l, f, n); want = y.hour(s, l, f, n); call = "hour " + s + " " + l + " " + f + " " + n; break; }
            case 31: { int t = thing(), s = below(4), l = below(3), f = below(20); got = x.film(t, s, l, f); want = y.film(t, s, l, f); call = "film " + t + " " + s + " " + l + " " + f; break; }
            case 32: { int s = below(4), l = below(3), n = below(25); got = x.sheet(s, l, n); want = y.sheet(s, l, n); call = "sheet " + s + " " + l + " " + n; break; }
            case 33: { int s = below(4); if (draw.nextInt(2) > 0) return; got = x.drop(s); want = y.drop(s); call = "drop " + s; break; }
            case 34: { int f = below(4), i = below(12), t = below(4), j = below(12), n = below(12); got = x.copy(f, i, t, j, n); want = y.copy(f, i, t, j, n); call = "copy " + f + " " + i + " " + t + " " + j + " " + n; break; }
            default: if (draw.nextInt(2) == 0) { wholeHour(where); return; } else { int s = below(4), l = below(3), i = below(24), v = below(6); got = x.item(s, l, i, v); want = y.item(s, l, i, v); call = "item " + s + " " + l + " " + i + " " + v; break; }
        }
        Check.due(where + call, got, want);
    }

    private int says() {
        int pick = draw.nextInt(10);
        return pick < 6 ? draw.nextInt(3) : pick < 8 ? -1 : below(97);
    }

    /** A sheet with an hour on it that has a fair chance to be. */
    private void wholeHour(String where) {
        int s = draw.nextInt(4), l = draw.nextInt(3), n = 1 + draw.nextInt(3);
        Check.due(where + "sheet", x.sheet(s, l, 3 * n), y.sheet(s, l, 3 * n));
        for (int i = 0; i < 3 * n; i++) {
            int v = i % 3 == 2 ? thing() : kid();
            Check.due(where + "item", x.item(s, l, i, v), y.item(s, l, i, v));
        }
        Check.due(where + "hour of " + n, x.hour(s, l, 0, n), y.hour(s, l, 0, n));
    }

    private void text(String where, String text) {
        for (int i = 0; i < text.length(); i += 8) {
            String piece = text.substring(i, Math.min(text.length(), i + 8));
            Check.due(where + "type '" + piece + "'", x.type(Check.word(piece), piece.length()), y.type(Check.word(piece), piece.length()));
        }
    }

    private String schoolText() {
        StringBuilder text = new StringBuilder();
        int n = 1 + draw.nextInt(6);
        for (int c = 0; c < n; c++) {
            if (c > 0) text.append(',');
            text.append("phlw".charAt(draw.nextInt(4)));
            for (int t = 0; t < 4; t++) if (draw.nextInt(5) == 0) text.append((char) ('a' + t));
        }
        return spoil(text);
    }

    private String planText() {
        StringBuilder text = new StringBuilder();
        int n = draw.nextInt(8) == 0 ? 23 + draw.nextInt(3) : 1 + draw.nextInt(8);
        int kids = Math.max(2, x.count(0));
        for (int i = 0; i < n; i++) {
            if (i > 0) text.append(draw.nextBoolean() ? ',' : ';');
            int a = draw.nextInt(kids), b = (a + 1 + draw.nextInt(kids - 1)) % kids;
            text.append(a).append('>').append(b).append((char) ('a' + draw.nextInt(4)));
        }
        return spoil(text);
    }

    private String spoil(StringBuilder text) {
        for (int k = draw.nextInt(6); k > 3; k--) text.insert(draw.nextInt(text.length() + 1), ' ');
        if (draw.nextInt(4) > 0) return text.toString();
        int at = draw.nextInt(text.length());
        switch (draw.nextInt(3)) {
            case 0: text.deleteCharAt(at); break;
            case 1: text.setCharAt(at, "phlwabcde,;>0123456789 x~".charAt(draw.nextInt(25))); break;
            default: text.insert(at, "phlwabcde,;>0123456789 x~".charAt(draw.nextInt(25))); break;
        }
        return text.toString();
    }
}
