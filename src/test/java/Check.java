/** Counts and prints answers that are not as due; what all tests of the project share. */
final class Check {
    private static int checked = 0;
    private static int wrong = 0;

    private Check() { }

    static void due(String what, long got, long want) {
        checked++;
        if (got == want) return;
        wrong++;
        if (wrong <= 40) System.out.println(what + " answered " + got + ", due is " + want);
    }

    static void holds(String what, boolean is) {
        due(what, is ? 1 : 0, 1);
    }

    /** Types a text, eight bytes a call; answers what the last call answered. */
    static int type(TaughtHours x, String text) {
        int answer = 0;
        for (int i = 0; i < text.length(); i += 8) {
            int n = Math.min(8, text.length() - i);
            answer = x.type(word(text.substring(i, i + n)), n);
        }
        return answer;
    }

    static long word(String text) {
        long w = 0;
        for (int i = 0; i < text.length(); i++) w = w << 8 | text.charAt(i);
        return w;
    }

    static TaughtHours school(String text) {
        TaughtHours x = new TaughtHours();
        type(x, text);
        if (x.school() < 1) throw new IllegalStateException("not a school: " + text);
        return x;
    }

    static int plan(TaughtHours x, String text) {
        type(x, text);
        return x.plan();
    }

    static void end() {
        System.out.println(checked + " answers looked at, " + wrong + " not as due");
        if (wrong != 0) System.exit(1);
    }
}
