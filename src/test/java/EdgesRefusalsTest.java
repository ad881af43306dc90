import static java.lang.Integer.MAX_VALUE;
import static java.lang.Integer.MIN_VALUE;

import java.util.function.Supplier;
import java.util.function.ToIntFunction;

/**
 * What the document says of all refusals: of several the first that a call names, and what is refused
 * changes nothing. Each refused call is held against a twin of the object that was not asked.
 */
public final class EdgesRefusalsTest {
    private static final int BAD = -1, NOT = -2, FULL = -3, NONE = -4, NULL = -11, CAST = -12, INDEX = -13, SIZE = -14;
    private static Supplier<TaughtHours> made;

    public static void main(String[] args) {
        numbers(); childrenRefused(); textsRefused(); teachingRefused(); mouthsRefused(); sheetsRefused();
        firstNamed(); machineOrder(); askingChangesNothing(); theTwinSees();
        Check.end();
    }

    /** A school in which nothing is as at first, with an image of another one. */
    static TaughtHours busyWithoutTape() {
        TaughtHours x = Check.school("pad,h,lb");
        x.need(0, 8);
        x.seed(123456);
        x.hears(1, 2, false);
        x.know(1, 3, 33);
        Check.plan(x, "0>1a");
        x.teach(0, 1, 0);
        x.image();
        Check.type(x, "pab,hc,l,w");
        x.school();
        x.need(0, 0);
        x.need(3, 4);
        x.hears(3, 0, false);
        x.know(2, 3, 50);
        x.teach(0, 1, 0);
        Check.plan(x, "0>2a,1>3c;2>3d,0>1b;2>3a");
        x.seed(77);
        Check.sheet(x, 0, 0, 0, 2, 0, 1, 3, 2, 5, 4);
        Check.sheet(x, 1, 1, 1, 3, 2, 0, 2, 3);
        Check.sheet(x, 2, 0, 3, 4, 5, 0, 1);
        return x;
    }

    private static TaughtHours busy() {
        TaughtHours x = busyWithoutTape();
        Check.type(x, "wa,p");
        return x;
    }

    /** Six children, and a tape with no room left. */
    private static TaughtHours full() {
        TaughtHours x = Check.school("pa,h,l,w,p,h");
        x.seed(5);
        Check.plan(x, "0>1a;1>2a");
        Check.type(x, "la,hb" + " ".repeat(155));
        return x;
    }

    private static TaughtHours alone() {
        return Check.school("pa");
    }

    private static void refused(String what, int want, ToIntFunction<TaughtHours> call) {
        Twin.refused(what, made, call, want);
    }

    private static void numbers() {
        Check.sentence("terms", "BAD -1, NOT -2, FULL -3, NONE -4, CAST -12; NULL -11, INDEX -13, SIZE -14");
        int[] got = {TaughtHours.BAD, TaughtHours.NOT, TaughtHours.FULL, TaughtHours.NONE,
            TaughtHours.NULL, TaughtHours.CAST, TaughtHours.INDEX, TaughtHours.SIZE};
        int[] want = {BAD, NOT, FULL, NONE, NULL, CAST, INDEX, SIZE};
        for (int i = 0; i < got.length; i++) Check.due("constant " + i, got[i], want[i]);
    }

    private static void childrenRefused() {
        Check.sentence("2 to 7, 11", "What is refused changes nothing");
        made = EdgesRefusalsTest::busy;
        for (int kind : new int[] {-1, 4}) refused("child " + kind, BAD, x -> x.child(kind));
        for (int c : new int[] {-1, 4}) {
            refused("know of " + c, BAD, x -> x.know(c, 0, 5));
            refused("hears of " + c, BAD, x -> x.hears(c, 0, false));
            refused("hears to " + c, BAD, x -> x.hears(0, c, false));
            refused("told of " + c, BAD, x -> x.told(c, 1));
            refused("passes of " + c, BAD, x -> x.passes(c, 1));
        }
        for (int t : new int[] {-1, 4}) {
            refused("know " + t, BAD, x -> x.know(0, t, 5));
            refused("need of " + t, BAD, x -> x.need(t, 0));
        }
        for (int says : new int[] {-2, 97}) {
            refused("know so " + says, BAD, x -> x.know(0, 0, says));
            refused("passes " + says, BAD, x -> x.passes(0, says));
        }
        for (int set : new int[] {-1, 16}) refused("need " + set, BAD, x -> x.need(0, set));
        refused("need itself", BAD, x -> x.need(0, 3));
        refused("hears itself", BAD, x -> x.hears(2, 2, false));
        for (int what : new int[] {-1, 7}) refused("told " + what, BAD, x -> x.told(0, what));
        for (int what : new int[] {-1, 6}) refused("count " + what, BAD, x -> x.count(what));
        made = EdgesRefusalsTest::full;
        refused("a seventh", FULL, x -> x.child(0));
    }

    private static void textsRefused() {
        Check.sentence("8 to 10", "What is refused changes nothing, but as told (THE TAPE is empty then)");
        made = EdgesRefusalsTest::busy;
        for (int n : new int[] {0, 9}) refused("type " + n, BAD, x -> x.type(Check.word("pppppppp"), n));
        for (long sign : new long[] {31, 127, 255}) {
            refused("type the first " + sign, BAD, x -> x.type(sign << 16 | Check.word("pp"), 3));
            refused("type the last " + sign, BAD, x -> x.type(Check.word("pp") << 8 | sign, 3));
        }
        made = EdgesRefusalsTest::full;
        for (int n = 1; n <= 8; n++) {
            int many = n;
            refused("type " + n, FULL, x -> x.type(Check.word("pppppppp"), many));
        }
        Supplier<TaughtHours> without = EdgesRefusalsTest::busyWithoutTape;
        Twin.alike("a fault of school", without, EdgesRefusalsTest::busy, x -> {
            x.type(',', 1);
            return x.school();
        });
        Twin.alike("a fault of plan", without, EdgesRefusalsTest::busy, TaughtHours::plan);
    }

    private static void teachingRefused() {
        Check.sentence("12 to 18", "What is refused changes nothing");
        made = EdgesRefusalsTest::busy;
        for (int c : new int[] {-1, 4}) {
            refused("may by " + c, BAD, x -> x.may(c, 0, 0));
            refused("may to " + c, BAD, x -> x.may(0, c, 0));
            refused("teach by " + c, BAD, x -> x.teach(c, 0, 0));
            refused("teach to " + c, BAD, x -> x.teach(0, c, 0));
            refused("may " + c, BAD, x -> x.may(0, 2, c));
            refused("teach " + c, BAD, x -> x.teach(0, 2, c));
        }
        refused("may itself", BAD, x -> x.may(0, 0, 0));
        refused("teach itself", BAD, x -> x.teach(0, 0, 0));
        refused("teach what it knows", NOT, x -> x.teach(0, 1, 0));
        refused("teach what is not known", NOT, x -> x.teach(0, 1, 2));
        refused("teach what needs another", NOT, x -> x.teach(2, 0, 3));
        refused("teach who does not hear", NOT, x -> x.teach(0, 3, 0));
        for (int set : new int[] {-1, 16}) {
            refused("hours " + set, BAD, x -> x.hours(set));
            refused("bound " + set, BAD, x -> x.bound(set));
            refused("order " + set, BAD, x -> x.order(set, 0));
        }
        refused("hours", FULL, x -> x.hours(15));
        refused("hours", NONE, x -> x.hours(8));
        for (int i : new int[] {-1, 4}) refused("order at " + i, BAD, x -> x.order(15, i));
        refused("order", NONE, x -> x.order(7, 3));
        made = EdgesRefusalsTest::alone;
        refused("bound", NONE, x -> x.bound(2));
    }

    private static void mouthsRefused() {
        Check.sentence("19 to 24", "What is refused changes nothing");
        made = EdgesRefusalsTest::busy;
        for (int t : new int[] {-1, 4}) {
            refused("mouths " + t, BAD, x -> x.mouths(t, 0));
            refused("from " + t, BAD, x -> x.from(t, 0));
            refused("from by " + t, BAD, x -> x.from(0, t));
        }
        for (int what : new int[] {-1, 2}) refused("mouths what " + what, BAD, x -> x.mouths(0, what));
        refused("from", BAD, x -> x.from(0, 3));
        for (int n : new int[] {0, 61}) refused("lessons " + n, BAD, x -> x.lessons(n));
        for (int v : new int[] {-1, MIN_VALUE}) refused("seed " + v, BAD, x -> x.seed(v));
        made = EdgesRefusalsTest::full;
        refused("restore", NONE, TaughtHours::restore);
        made = EdgesRefusalsTest::noWay;
        refused("from", NONE, x -> x.from(0, 1));
    }

    private static void sheetsRefused() {
        Check.sentence("25 to 30", "What is refused changes nothing");
        made = EdgesRefusalsTest::busy;
        for (int s : new int[] {-1, 4}) {
            refused("hour " + s, BAD, x -> x.hour(s, 0, 0, 1));
            refused("film " + s, BAD, x -> x.film(0, s, 0, 0));
            refused("film of " + s, BAD, x -> x.film(s, 0, 0, 0));
            refused("sheet " + s, BAD, x -> x.sheet(s, 0, 3));
            refused("drop " + s, BAD, x -> x.drop(s));
            refused("item " + s, BAD, x -> x.item(s, 0, 0, 3));
            refused("copy from " + s, BAD, x -> x.copy(s, 0, 0, 0, 1));
            refused("copy to " + s, BAD, x -> x.copy(0, 0, s, 0, 1));
            refused("hour of " + s, BAD, x -> x.hour(0, 0, 0, s));
        }
        for (int lane : new int[] {-1, 3}) {
            refused("hour as " + lane, BAD, x -> x.hour(0, lane, 0, 1));
            refused("film as " + lane, BAD, x -> x.film(0, 0, lane, 0));
            refused("sheet as " + lane, BAD, x -> x.sheet(0, lane, 3));
            refused("item as " + lane, BAD, x -> x.item(0, lane, 0, 3));
        }
        refused("hour", NULL, x -> x.hour(3, 0, 0, 1));
        refused("hour", CAST, x -> x.hour(0, 1, 0, 1));
        refused("hour", CAST, x -> x.hour(1, 0, 0, 1));
        refused("hour", INDEX, x -> x.hour(0, 0, 6, 1));
        refused("hour", INDEX, x -> x.hour(0, 0, 0, 3));
        refused("hour", INDEX, x -> x.hour(0, 0, -1, 1));
        refused("hour, the second may not be", NOT, x -> x.hour(1, 1, 0, 2));
        refused("hour of who is not there", NOT, x -> x.hour(2, 0, 0, 1));
        refused("film", NULL, x -> x.film(0, 3, 0, 0));
        refused("film", CAST, x -> x.film(0, 1, 0, 0));
        refused("film, the last one does not go", INDEX, x -> x.film(0, 0, 0, 5));
        refused("film, all but one do not go", INDEX, x -> x.film(0, 2, 0, 4));
        refused("film", INDEX, x -> x.film(0, 0, 0, -1));
        refused("sheet", BAD, x -> x.sheet(0, 0, 25));
        refused("sheet", SIZE, x -> x.sheet(0, 1, -1));
        refused("drop", NULL, x -> x.drop(3));
        refused("item", NULL, x -> x.item(3, 0, 0, 3));
        refused("item", CAST, x -> x.item(0, 2, 0, 3));
        refused("item", INDEX, x -> x.item(0, 0, 8, 3));
        refused("item", INDEX, x -> x.item(0, 0, -1, 3));
        refused("copy", NULL, x -> x.copy(0, 0, 3, 0, 1));
        refused("copy", NULL, x -> x.copy(3, 0, 0, 0, 1));
        refused("copy", CAST, x -> x.copy(0, 0, 1, 0, 1));
        refused("copy, the last one does not go", INDEX, x -> x.copy(0, 0, 2, 0, 6));
        refused("copy, the last one is not there", INDEX, x -> x.copy(2, 0, 0, 0, 6));
        refused("copy onto itself", INDEX, x -> x.copy(0, 0, 0, 1, 8));
        refused("copy below 0", INDEX, x -> x.copy(0, 3, 2, 3, -1));
    }

    private static void firstNamed() {
        Check.sentence("terms", "Refusals are answers, of several the first that a call names");
        made = EdgesRefusalsTest::full;
        refused("2 child: BAD, FULL", BAD, x -> x.child(4));
        refused("8 type: BAD (n), FULL", BAD, x -> x.type(Check.word("pppppppp"), 9));
        refused("8 type: BAD (a byte), FULL", BAD, x -> x.type(31, 1));
        refused("13 teach: BAD, NOT", BAD, x -> x.teach(0, 0, 0));
        refused("13 teach: BAD, NOT", BAD, x -> x.teach(1, 6, 0));
        refused("13 teach: BAD, NOT", BAD, x -> x.teach(1, 0, 4));
        refused("15 hours: BAD, FULL", BAD, x -> x.hours(31));
        refused("15 hours: FULL, NONE", FULL, x -> x.hours(14));
        made = EdgesRefusalsTest::alone;
        refused("15 hours: BAD, NONE", BAD, x -> x.hours(18));
        refused("16 bound: BAD, NONE", BAD, x -> x.bound(18));
        refused("18 order: BAD, NONE", BAD, x -> x.order(0, 4));
        refused("18 order: BAD, NONE", BAD, x -> x.order(16, 3));
        made = EdgesRefusalsTest::noWay;
        refused("20 from: BAD, NONE", BAD, x -> x.from(0, 2));
        refused("20 from: BAD, NONE", BAD, x -> x.from(0, 3));
        refused("20 from: NONE", NONE, x -> x.from(0, 0));
    }

    private static TaughtHours noWay() {
        TaughtHours x = Check.school("pa,pa,p");
        x.know(1, 0, 9);
        return x;
    }

    private static void machineOrder() {
        Check.sentence("terms", "NULL, CAST, INDEX, SIZE in this order, behind BAD");
        made = EdgesRefusalsTest::busy;
        refused("25 hour: BAD, NULL, INDEX", BAD, x -> x.hour(3, 0, -1, 4));
        refused("25 hour: BAD, CAST, INDEX", BAD, x -> x.hour(0, 1, 99, 0));
        refused("25 hour: BAD, NULL", BAD, x -> x.hour(3, 3, 0, 1));
        refused("25 hour: NULL, INDEX", NULL, x -> x.hour(3, 0, -1, 3));
        refused("25 hour: CAST, INDEX", CAST, x -> x.hour(0, 2, MAX_VALUE, 3));
        refused("25 hour: INDEX, NOT", INDEX, x -> x.hour(0, 0, 2, 3));
        refused("25 hour: CAST, NOT", CAST, x -> x.hour(2, 1, 0, 1));
        refused("26 film: BAD, NULL, INDEX", BAD, x -> x.film(4, 3, 0, -1));
        refused("26 film: BAD, CAST, INDEX", BAD, x -> x.film(-1, 0, 1, 99));
        refused("26 film: BAD, NULL", BAD, x -> x.film(0, 3, 3, 0));
        refused("26 film: NULL, INDEX", NULL, x -> x.film(0, 3, 0, -1));
        refused("26 film: CAST, INDEX", CAST, x -> x.film(0, 0, 2, -1));
        refused("27 sheet: BAD, SIZE", BAD, x -> x.sheet(4, 0, -1));
        refused("27 sheet: BAD, SIZE", BAD, x -> x.sheet(0, 3, -1));
        refused("29 item: BAD, NULL, INDEX", BAD, x -> x.item(3, 3, -1, 0));
        refused("29 item: BAD, INDEX", BAD, x -> x.item(0, -1, 99, 0));
        refused("29 item: NULL, INDEX", NULL, x -> x.item(3, 0, -1, 0));
        refused("29 item: CAST, INDEX", CAST, x -> x.item(0, 1, -1, 0));
        refused("30 copy: BAD, NULL, INDEX", BAD, x -> x.copy(3, -1, 4, -1, -1));
        refused("30 copy: BAD, NULL, INDEX", BAD, x -> x.copy(4, -1, 3, -1, -1));
        refused("30 copy: BAD, INDEX", BAD, x -> x.copy(-1, 99, 0, 0, 1));
        refused("30 copy: NULL, INDEX", NULL, x -> x.copy(3, -1, 0, 0, 1));
        refused("30 copy: NULL, INDEX", NULL, x -> x.copy(0, 99, 3, 0, -1));
        refused("30 copy: NULL (either), CAST", NULL, x -> x.copy(1, 0, 3, 0, 1));
        refused("30 copy: CAST, INDEX", CAST, x -> x.copy(0, 99, 1, 0, 1));
        refused("30 copy: CAST, INDEX", CAST, x -> x.copy(1, 0, 0, -1, 1));
        refused("30 copy: CAST, INDEX", CAST, x -> x.copy(1, 0, 0, 0, -1));
    }

    private static void askingChangesNothing() {
        Check.sentence("6, 7, 11, 12, 15 to 20", "what is only asked changes nothing");
        made = EdgesRefusalsTest::busy;
        asked("told", x -> x.told(1, 1) + x.told(1, 2) + x.told(1, 6));
        asked("passes", x -> x.passes(2, 60));
        asked("count", x -> x.count(0) + x.count(5));
        asked("may", x -> x.may(0, 2, 0) + x.may(1, 3, 2));
        asked("hours", x -> x.hours(1) + x.hours(3) + x.hours(7));
        asked("bound", x -> x.bound(15));
        asked("spared", TaughtHours::spared);
        asked("order", x -> x.order(15, 3));
        asked("mouths", x -> x.mouths(0, 0) + x.mouths(0, 1));
        asked("from", x -> x.from(0, 1));
    }

    private static void asked(String what, ToIntFunction<TaughtHours> call) {
        Twin.alike(what, made, made, call);
    }

    /** The test itself: what does change an object is seen. */
    private static void theTwinSees() {
        Check.sentence("this test", "what changes is seen");
        made = EdgesRefusalsTest::busy;
        sees("know", x -> x.know(3, 3, 96));
        sees("need", x -> x.need(2, 1));
        sees("hears", x -> x.hears(2, 1, false));
        sees("child", x -> x.child(0));
        sees("type", x -> x.type('a', 1));
        sees("plan", TaughtHours::plan);
        sees("school", TaughtHours::school);
        sees("teach", x -> x.teach(0, 2, 0));
        sees("teach and forget", x -> x.teach(0, 2, 0) + x.know(2, 0, -1));
        sees("run", TaughtHours::run);
        sees("lessons", x -> x.lessons(1));
        sees("seed", x -> x.seed(78));
        sees("image", TaughtHours::image);
        sees("restore", TaughtHours::restore);
        sees("hour", x -> x.hour(0, 0, 0, 1));
        sees("film", x -> x.film(0, 0, 0, 0));
        sees("sheet", x -> x.sheet(3, 0, 0));
        sees("a row anew", x -> x.sheet(1, 1, 3));
        sees("another lane", x -> x.sheet(1, 2, 3));
        sees("drop", x -> x.drop(2));
        sees("item", x -> x.item(2, 0, 4, 2));
        sees("copy", x -> x.copy(0, 0, 2, 4, 1));
    }

    private static void sees(String what, ToIntFunction<TaughtHours> call) {
        String before = Twin.seen(made);
        String then = Twin.seen(() -> {
            TaughtHours x = made.get();
            call.applyAsInt(x);
            return x;
        });
        Check.holds(what, !before.equals(then));
    }
}
