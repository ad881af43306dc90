import java.util.Random;

/** Drawn schools in which much is known, each asked all that is worked out by search, against the naive school. */
public final class DenseTest {
    private static final int SCHOOLS = 1500;
    private final Random draw;
    private final TaughtHours x = new TaughtHours();
    private final NaiveSchool y = new NaiveSchool();
    private final int children;

    private DenseTest(int seed) {
        draw = new Random(seed);
        children = 1 + draw.nextInt(6);
    }

    public static void main(String[] args) {
        for (int i = 0; i < SCHOOLS; i++) {
            DenseTest one = new DenseTest(i);
            one.fill();
            one.ask("school " + i + " ");
        }
        Check.end();
    }

    private void fill() {
        int kinds = 1 + draw.nextInt(4), sayings = 1 + draw.nextInt(3), dense = 1 + draw.nextInt(5);
        for (int c = 0; c < children; c++) {
            int kind = draw.nextInt(kinds);
            x.child(kind);
            y.child(kind);
        }
        for (int c = 0; c < children; c++) {
            for (int t = 0; t < 4; t++) {
                if (draw.nextInt(6) > dense) continue;
                int says = draw.nextInt(sayings);
                x.know(c, t, says);
                y.know(c, t, says);
            }
        }
        for (int k = draw.nextInt(12); k > 4; k--) deafen(draw.nextInt(children), draw.nextInt(children));
        for (int t = 0; t < 4 && draw.nextBoolean(); t++) {
            int set = draw.nextInt(16) & ~(1 << t);
            x.need(t, set);
            y.need(t, set);
        }
    }

    private void deafen(int a, int b) {
        x.hears(a, b, false);
        y.hears(a, b, false);
    }

    private void ask(String where) {
        for (int set = 0; set < 16; set++) {
            // the naive one takes too long where six children lack much
            if (children < 6 || Integer.bitCount(set) != 2 || x.bound(set) < 4 || draw.nextInt(60) == 0) {
                Check.due(where + "hours " + set, x.hours(set), y.hours(set));
            }
            Check.due(where + "bound " + set, x.bound(set), y.bound(set));
            for (int i = 0; i < 4; i++) Check.due(where + "order " + set + " " + i, x.order(set, i), y.order(set, i));
        }
        for (int t = 0; t < 4; t++) {
            Check.due(where + "ways " + t, x.mouths(t, 0), y.mouths(t, 0));
            Check.due(where + "first mouths " + t, x.mouths(t, 1), y.mouths(t, 1));
            for (int c = 0; c < children; c++) Check.due(where + "from " + t + " " + c, x.from(t, c), y.from(t, c));
        }
        for (int k = 0; k < 4 && children > 1; k++) plan(where);
    }

    private void plan(String where) {
        StringBuilder text = new StringBuilder();
        for (int n = draw.nextInt(24); n >= 0; n--) {
            int a = draw.nextInt(children), b = (a + 1 + draw.nextInt(children - 1)) % children;
            text.append(a).append('>').append(b).append((char) ('a' + draw.nextInt(4)));
            if (n > 0) text.append(draw.nextInt(3) == 0 ? ';' : ',');
        }
        for (int i = 0; i < text.length(); i += 8) {
            String piece = text.substring(i, Math.min(text.length(), i + 8));
            x.type(Check.word(piece), piece.length());
            y.type(Check.word(piece), piece.length());
        }
        Check.due(where + "plan " + text, x.plan(), y.plan());
        Check.due(where + "spared " + text, x.spared(), y.spared());
        Check.due(where + "run " + text, x.run(), y.run());
        Check.due(where + "spared then", x.spared(), y.spared());
    }
}
