import java.util.function.Supplier;
import java.util.function.ToIntFunction;

/**
 * Holds an object that was asked a call against a twin that was not: all that can be seen of both.
 * What is seen is partly used up by looking, so the object is made anew for each look; no object
 * is asked more than the 512 calls for which the document speaks.
 */
final class Twin {
    private static final int NULL = -11, INDEX = -13;

    private Twin() { }

    /** That a call is refused so and changes nothing. */
    static void refused(String what, Supplier<TaughtHours> made, ToIntFunction<TaughtHours> call, int want) {
        Check.due(what, call.applyAsInt(made.get()), want);
        alike(what + " changes nothing", made, made, call);
    }

    /** That an object, asked a call, is as another one. */
    static void alike(String what, Supplier<TaughtHours> other, Supplier<TaughtHours> made, ToIntFunction<TaughtHours> call) {
        String due = seen(other);
        String got = seen(() -> {
            TaughtHours x = made.get();
            call.applyAsInt(x);
            return x;
        });
        Check.holds(what + "\n  due " + due + "\n  got " + got + "\n ", due.equals(got));
    }

    static String seen(Supplier<TaughtHours> made) {
        StringBuilder all = new StringBuilder();
        seeSchool(made.get(), all);
        TaughtHours x = made.get();
        all.append(" image ").append(x.restore());
        seeSchool(x, all);
        x = made.get();
        all.append(" tape ").append(x.type(32, 1)).append(' ').append(x.plan());
        seeSchool(x, all);
        x = made.get();
        all.append(" as school ").append(x.school());
        seeSchool(x, all);
        for (int s = 0; s < 4; s++) seeSheet(made, s, all);
        return all.toString();
    }

    private static void seeSchool(TaughtHours x, StringBuilder all) {
        for (int what = 0; what < 6; what++) all.append(' ').append(x.count(what));
        for (int t = 0; t < 4; t++) {
            int set = x.need(t, 0);
            x.need(t, set);
            all.append(" n").append(set);
        }
        int draw = x.seed(0);
        x.seed(draw);
        all.append(" draw ").append(draw).append(" spared ").append(x.spared());
        seeChildren(x, all);
        all.append(" run ").append(x.run());
        seeChildren(x, all);
    }

    private static void seeChildren(TaughtHours x, StringBuilder all) {
        for (int c = 0; c < x.count(0); c++) {
            all.append(" c");
            for (int what = 0; what < 7; what++) all.append(x.told(c, what)).append('.');
        }
    }

    private static void seeSheet(Supplier<TaughtHours> made, int s, StringBuilder all) {
        TaughtHours x = made.get();
        int lane = 0;
        while (lane < 3 && x.item(s, lane, -1, 0) != INDEX) lane++;
        int size = x.drop(s);
        all.append(" sheet ").append(s).append(" lane ").append(lane).append(" of ").append(size).append(':');
        if (size == NULL) return;
        x = made.get();
        for (int i = 0; i < size; i++) {
            // a long row is read by several objects
            if (i % 12 == 0) x = reader(made);
            all.append(' ').append(itemAt(x, s, lane, i));
        }
    }

    /** The object with a school of six in which only child 0 knows a thing, thing 0. */
    private static TaughtHours reader(Supplier<TaughtHours> made) {
        TaughtHours x = made.get();
        x.plan();
        Check.type(x, "pa,p,p,p,p,p");
        x.school();
        for (int t = 0; t < 4; t++) x.need(t, 0);
        return x;
    }

    /** An item, as far as it can be seen: the number of a child, or 9. */
    static int itemAt(TaughtHours x, int sheet, int lane, int i) {
        int other = (sheet + 1) % 4;
        x.sheet(other, lane, 3);
        x.copy(sheet, i, other, 1, 1);
        if (x.hour(other, lane, 0, 1) == 1) {
            for (int c = 1; c < 6; c++) if (x.know(c, 0, -1) != 97) return c;
        }
        x.copy(sheet, i, other, 0, 1);
        x.item(other, lane, 1, 1);
        return x.hour(other, lane, 0, 1) == 1 && x.know(1, 0, -1) != 97 ? 0 : 9;
    }
}
