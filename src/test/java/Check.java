/** Counts and prints answers that are not as due; what all tests of the project share. */
final class Check {
    private static int checked = 0;
    private static int wrong = 0;
    private static int sentences = 0;
    private static String label = "";

    private Check() { }

    /** From here on the answers are those that a sentence of the document asks for. */
    static void sentence(String promise, String words) {
        label = promise + " \"" + words + "\": ";
        sentences++;
    }

    static void due(String what, long got, long want) {
        checked++;
        if (got == want) return;
        wrong++;
        if (wrong <= 40) System.out.println(label + what + " answered " + got + ", due is " + want);
    }

    static void holds(String what, boolean is) {
        due(what, is ? 1 : 0, 1);
    }

    /** Numbers that are none of 0 to n - 1, the nearest among them. */
    static int[] outside(int n) {
        return new int[] {-1, -2, n, n + 1, 2 * n, Integer.MIN_VALUE, Integer.MIN_VALUE + 1, Integer.MAX_VALUE};
    }

    /** Types a text, eight bytes a call; answers what the last call answered. */
    static int type(TaughtHours x, String text) {
        int answer = 0;
        for (int i = 0; i < text.length(); i += 8) {
            int n = Math.min(8, text.length() - i);
            answer = x.type(word(text.substring(i, i + n)), n);
        }
        return answer;
    }

    static long word(String text) {
        long w = 0;
        for (int i = 0; i < text.length(); i++) w = w << 8 | text.charAt(i);
        return w;
    }

    static TaughtHours school(String text) {
        TaughtHours x = new TaughtHours();
        type(x, text);
        if (x.school() < 1) throw new IllegalStateException("not a school: " + text);
        return x;
    }

    static int plan(TaughtHours x, String text) {
        type(x, text);
        return x.plan();
    }

    /** A sheet with these items on it. */
    static void sheet(TaughtHours x, int sheet, int lane, int... items) {
        if (x.sheet(sheet, lane, items.length) != items.length) throw new IllegalStateException("not a sheet");
        for (int i = 0; i < items.length; i++) x.item(sheet, lane, i, items[i]);
    }

    /** What each child says of a thing, two digits each, the first child's highest. */
    static long sayings(TaughtHours x, int thing) {
        long all = 0;
        for (int c = 0; c < x.count(0); c++) all = all * 100 + x.told(c, 3 + thing);
        return all;
    }

    static void end() {
        String of = sentences > 0 ? sentences + " sentences, " : "";
        System.out.println(of + checked + " answers looked at, " + wrong + " not as due");
        if (wrong != 0) System.exit(1);
    }
}
