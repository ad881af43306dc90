import static java.lang.Integer.MAX_VALUE;
import static java.lang.Integer.MIN_VALUE;

/** For each promise ordinary inputs, edges, and wrong inputs; the answers were worked out by hand. */
public final class PromisesTest {
    private static final int BAD = -1, NOT = -2, FULL = -3, NONE = -4, NULL = -11, CAST = -12, INDEX = -13, SIZE = -14;
    private static String part = "";

    public static void main(String[] args) {
        newObject(); child(); know(); need(); hears(); told(); passes(); type(); school(); plan(); count();
        may(); teach(); run(); hours(); bound(); spared(); order();
        mouths(); from(); lessons(); seed(); image(); restore();
        hour(); film(); sheet(); drop(); item(); copy();
        Check.end();
    }

    private static void due(String what, long got, long want) {
        Check.due(part + ": " + what, got, want);
    }

    private static void newObject() {
        part = "1 new";
        TaughtHours x = new TaughtHours();
        for (int what = 0; what <= 5; what++) due("count " + what, x.count(what), 0);
        due("told", x.told(0, 0), BAD);
        due("run", x.run(), 0);
        due("spared", x.spared(), 0);
        due("hours", x.hours(15), 0);
        due("bound", x.bound(15), 0);
        due("mouths", x.mouths(0, 0), 0);
        due("lessons", x.lessons(60), 0);
        due("the draw", x.seed(5), 1);
        due("no image", x.restore(), NONE);
        for (int t = 0; t < 4; t++) due("need", x.need(t, 0), 0);
        for (int s = 0; s < 4; s++) due("sheet", x.drop(s), NULL);
        due("school of an empty tape", x.school(), -20);
        due("plan of an empty tape", x.plan(), -20);
    }

    private static void child() {
        part = "2 child";
        TaughtHours x = new TaughtHours();
        for (int kind : new int[] {-1, 4, MIN_VALUE, MAX_VALUE}) due("kind " + kind, x.child(kind), BAD);
        due("none yet", x.count(0), 0);
        int[] kinds = {3, 0, 2, 1, 1, 0};
        for (int c = 0; c < 6; c++) due("child", x.child(kinds[c]), c);
        for (int c = 0; c < 6; c++) {
            due("kind", x.told(c, 0), kinds[c]);
            due("knows nothing", x.told(c, 1), 0);
            due("hears all others", x.told(c, 2), 63 & ~(1 << c));
        }
        due("a seventh", x.child(0), FULL);
        due("a seventh of no kind", x.child(4), BAD);
        due("six", x.count(0), 6);
        // a new child hears all and is heard by all, whoever hears whom of the others
        x = Check.school("p,p");
        x.hears(0, 1, false);
        x.child(0);
        due("0 hears", x.told(0, 2), 4);
        due("1 hears", x.told(1, 2), 5);
        due("2 hears", x.told(2, 2), 3);
    }

    private static void know() {
        part = "3 know";
        TaughtHours x = Check.school("p,h");
        due("first", x.know(1, 3, 96), 97);
        due("then", x.know(1, 3, 0), 96);
        due("then", x.know(1, 3, 0), 0);
        due("set", x.told(1, 1), 8);
        due("not any more", x.know(1, 3, -1), 0);
        due("not any more", x.know(1, 3, -1), 97);
        due("set", x.told(1, 1), 0);
        x.know(0, 1, 7);
        int[][] wrong = {{-1, 1, 0}, {2, 1, 0}, {6, 1, 0}, {0, -1, 0}, {0, 4, 0}, {0, 1, -2}, {0, 1, 97},
            {MAX_VALUE, 1, 0}, {0, MIN_VALUE, 0}, {0, 1, MIN_VALUE}, {0, 1, MAX_VALUE}};
        for (int[] w : wrong) due("wrong", x.know(w[0], w[1], w[2]), BAD);
        due("stays", x.told(0, 4), 7);
        due("needs do not matter", x.need(2, 9), 0);
        due("needs do not matter", x.know(0, 2, 5), 97);
        due("not a teaching", x.count(1), 0);
    }

    private static void need() {
        part = "4 need";
        TaughtHours x = new TaughtHours();
        due("first", x.need(0, 14), 0);
        due("then", x.need(0, 2), 14);
        due("then", x.need(0, 0), 2);
        due("each its own", x.need(3, 7), 0);
        for (int t = 0; t < 4; t++) due("itself", x.need(t, 1 << t), BAD);
        due("itself among others", x.need(1, 3), BAD);
        int[][] wrong = {{-1, 0}, {4, 0}, {0, -1}, {0, 16}, {0, MIN_VALUE}, {MAX_VALUE, 0}, {MIN_VALUE, 0}, {0, MAX_VALUE}};
        for (int[] w : wrong) due("wrong", x.need(w[0], w[1]), BAD);
        due("stays", x.need(3, 0), 7);
        due("stays", x.need(0, 0), 0);
        due("one another", x.need(0, 2), 0);
        due("one another", x.need(1, 1), 0);
    }

    private static void hears() {
        part = "5 hears";
        TaughtHours x = Check.school("p,p,p");
        due("did", x.hears(0, 2, false), 1);
        due("did not", x.hears(0, 2, false), 0);
        due("set of 0", x.told(0, 2), 2);
        due("set of 2: of two one alone", x.told(2, 2), 3);
        due("did not", x.hears(0, 2, true), 0);
        due("did", x.hears(0, 2, true), 1);
        due("set of 0", x.told(0, 2), 6);
        int[][] wrong = {{0, 0}, {2, 2}, {3, 0}, {0, 3}, {-1, 0}, {0, -1}, {MAX_VALUE, 0}, {0, MIN_VALUE}, {5, 5}};
        for (int[] w : wrong) due("wrong", x.hears(w[0], w[1], false), BAD);
        due("stays", x.told(0, 2), 6);
    }

    private static void told() {
        part = "6 told";
        TaughtHours x = Check.school("w,l");
        x.know(0, 0, 12);
        x.know(0, 3, 0);
        int[] want = {3, 9, 2, 12, 97, 97, 0};
        for (int what = 0; what < 7; what++) due("what " + what, x.told(0, what), want[what]);
        int[][] wrong = {{0, 7}, {0, -1}, {2, 0}, {-1, 0}, {0, MAX_VALUE}, {MIN_VALUE, 0}, {6, 3}};
        for (int[] w : wrong) due("wrong", x.told(w[0], w[1]), BAD);
    }

    private static void passes() {
        part = "7 passes";
        TaughtHours x = Check.school("p,h,l,w");
        int[] v = {0, 1, 47, 48, 49, 95, 96};
        int[][] want = {{0, 1, 47, 48, 49, 95, 96}, {1, 2, 48, 49, 50, 96, 0}, {0, 2, 94, 96, 1, 93, 95}, {95, 94, 48, 47, 46, 0, 96}};
        for (int c = 0; c < 4; c++) {
            for (int i = 0; i < v.length; i++) due("kind " + c + " of " + v[i], x.passes(c, v[i]), want[c][i]);
        }
        int[][] wrong = {{0, -1}, {0, 97}, {4, 0}, {-1, 0}, {0, MAX_VALUE}, {0, MIN_VALUE}, {MAX_VALUE, 5}};
        for (int[] w : wrong) due("wrong", x.passes(w[0], w[1]), BAD);
    }

    private static void type() {
        part = "8 type";
        TaughtHours x = new TaughtHours();
        long p = Check.word("p");
        for (int n : new int[] {0, -1, 9, MIN_VALUE, MAX_VALUE}) due("n " + n, x.type(Check.word("pppppppp"), n), BAD);
        due("below 32", x.type(31, 1), BAD);
        due("above 126", x.type(127, 1), BAD);
        due("above 127", x.type(255, 1), BAD);
        due("a wrong one among them", x.type(Check.word("pp") << 16 | 7 << 8 | p, 4), BAD);
        due("a wrong highest one", x.type(-1L, 8), BAD);
        due("a wrong one that is not taken", x.type(0x1f00L | p, 1), 1);
        due("of these the highest first", x.type(Check.word("abc"), 3), 4);
        due("as read", x.school(), 1);
        due("as read", x.told(0, 1), 7);
        due("32 and 126 are fine", x.type(32 << 8 | 126, 2), 2);
        due("as read", x.school(), -21);
        for (int i = 1; i <= 20; i++) due("full to the brim", x.type(Check.word("p       "), 8), 8 * i);
        due("one more", x.type(p, 1), FULL);
        due("one more that is wrong", x.type(1, 1), BAD);
        due("emptied", x.plan(), -20);
        for (int i = 1; i <= 19; i++) x.type(Check.word("        "), 8);
        due("eight left", x.type(Check.word("       "), 7), 159);
        due("two do not go in", x.type(Check.word("pp"), 2), FULL);
        due("one does", x.type(p, 1), 160);
        due("the last byte counts", x.school(), 1);
    }

    private static void schoolText(String text, int want) {
        TaughtHours x = Check.school("lb,h");
        Check.type(x, text);
        due("'" + text + "'", x.school(), want);
        if (want < 0) due("those told stay", x.told(0, 1) * 10 + x.count(0), 22);
        due("the tape is empty then", x.type(112, 1), 1);
    }

    private static void school() {
        part = "9 school";
        schoolText("p", 1);
        schoolText("wdcba", 1);
        schoolText("p,h,l,w,p,h", 6);
        schoolText("  l  a , w ", 2);
        schoolText("", -20);
        schoolText("   ", -23);
        schoolText("a", -20);
        schoolText("P", -20);
        schoolText(",p", -20);
        schoolText("p,", -22);
        schoolText("p, ", -23);
        schoolText("p,,p", -22);
        schoolText("pp", -21);
        schoolText("paba", -23);
        schoolText("pabcda", -25);
        schoolText("pA", -21);
        schoolText("pe", -21);
        schoolText("p`", -21);
        schoolText("p;p", -21);
        schoolText("p,h,l,w,p,h,", -31);
        schoolText("p,h,l,w,p,h,p", -31);
        schoolText("p,h,l,w,p,ha,p", -32);
        schoolText("p x", -22);
        schoolText(" p  aa", -25);
        TaughtHours x = Check.school("pa,p,h");
        x.need(1, 1);
        x.hears(0, 1, false);
        x.seed(77);
        x.know(2, 3, 50);
        x.teach(0, 2, 0);
        Check.plan(x, "0>1a");
        Check.type(x, "wc,lad");
        due("new ones", x.school(), 2);
        due("kind", x.told(0, 0), 3);
        due("kind", x.told(1, 0), 2);
        due("knows", x.told(0, 1), 4);
        due("knows", x.told(1, 1), 9);
        due("as it is", x.told(1, 6), 0);
        due("all hear all", x.told(0, 2), 2);
        due("all hear all", x.told(1, 2), 1);
        due("no plan", x.count(2) + x.count(3), 0);
        due("done since the beginning", x.count(1), 1);
        due("things need as before", x.need(1, 0), 1);
        due("the draw as before", x.seed(0), 77);
        x.child(0);
        due("a later child knows nothing of who was there before", x.told(2, 1), 0);
        due("a later child is heard", x.told(0, 2), 6);
    }

    private static void planText(String text, int want) {
        TaughtHours x = Check.school("pa,h,l");
        Check.plan(x, "0>1a;0>2a,1>0b;2>1c");
        Check.type(x, text);
        due("'" + text + "'", x.plan(), want);
        if (want < 0) due("the one kept stays", x.count(2) * 10 + x.count(3), 43);
        due("the tape is empty then", x.type(112, 1), 1);
    }

    private static void plan() {
        part = "10 plan";
        planText("2>0d", 1);
        planText(" 0 > 1 a , 1 > 2 b ; 2 > 0 c ", 3);
        planText("0>1a,0>1a,0>1a", 3);
        planText("", -20);
        planText("  ", -22);
        planText("3>0a", -20);
        planText("9>0a", -20);
        planText("a>0a", -20);
        planText("/>0a", -20);
        planText("0-1a", -21);
        planText("0", -21);
        planText("0>", -22);
        planText("0>3a", -22);
        planText("0>0a", -22);
        planText("0>/a", -22);
        planText("0>1", -23);
        planText("0>1e", -23);
        planText("0>1`", -23);
        planText("0>1A", -23);
        planText("0>1a0>2a", -24);
        planText("0>1ab", -24);
        planText("0>1a,", -25);
        planText("0>1a;", -25);
        planText("0>1a,;0>2a", -25);
        planText("0>1a;;0>2a", -25);
        planText(";0>1a", -20);
        planText("0>1a;1>1a", -27);
        planText(" 0 >0a", -24);
        planText("0>1a   ", 1);
        planText("0>1   ", -26);
        StringBuilder many = new StringBuilder("0>1a");
        for (int i = 1; i < 24; i++) many.append(i % 5 == 0 ? ";1>2c" : ",0>1b");
        planText(many.toString(), 24);
        planText(many + ",0>1a", -139);
        planText(many + ";", -139);
        planText(many + " ;0>1a", -140);
        TaughtHours x = Check.school("p,p,p");
        due("kept", Check.plan(x, many.toString()), 24);
        due("hours", x.count(3), 5);
        due("an hour a teaching", Check.plan(x, "0>1a;0>2a;1>2a"), 3);
        due("hours", x.count(3), 3);
        x = new TaughtHours();
        due("nobody there", Check.plan(x, "0>1a"), -20);
        x.child(0);
        due("one alone", Check.plan(x, "0>1a"), -22);
        x.child(0);
        due("two", Check.plan(x, "0>1a"), 1);
        x.child(0);
        due("kept when another comes", x.count(2), 1);
    }

    private static void count() {
        part = "11 count";
        TaughtHours x = Check.school("habcd,p,l");
        Check.plan(x, "0>1a;1>2a,0>1b;2>0c");
        int[] want = {3, 0, 4, 3, 4, 0};
        for (int what = 0; what < 6; what++) due("what " + what, x.count(what), want[what]);
        for (int what : new int[] {-1, 6, MIN_VALUE, MAX_VALUE}) due("wrong", x.count(what), BAD);
        due("run ends", x.run(), 2);
        x.teach(0, 1, 1);
        x.know(2, 3, 0);
        int[] then = {3, 3, 4, 3, 8, 3};
        for (int what = 0; what < 6; what++) due("then " + what, x.count(what), then[what]);
        due("a refused one is not done", x.teach(0, 1, 1), NOT);
        due("done", x.count(1), 3);
    }

    private static void may() {
        part = "12 may";
        TaughtHours x = Check.school("pa,p,p");
        due("as it may", x.may(0, 1, 0), 1);
        due("teacher does not know", x.may(1, 2, 0), 0);
        due("pupil knows", x.may(1, 0, 0), 0);
        x.know(1, 0, 3);
        due("both know", x.may(0, 1, 0), 0);
        x.know(1, 0, -1);
        x.hears(1, 0, false);
        due("does not hear", x.may(0, 1, 0), 0);
        due("another does", x.may(0, 2, 0), 1);
        x.hears(0, 2, false);
        due("the teacher need not hear", x.may(0, 2, 0), 1);
        x.need(0, 6);
        due("needs", x.may(0, 2, 0), 0);
        x.know(2, 1, 9);
        due("needs all", x.may(0, 2, 0), 0);
        x.know(2, 2, 9);
        due("knows all it needs", x.may(0, 2, 0), 1);
        due("changes nothing", x.count(4) + x.count(1), 3);
        int[][] wrong = {{0, 0, 0}, {1, 1, 3}, {3, 0, 0}, {0, 3, 0}, {-1, 0, 0}, {0, -1, 0}, {0, 1, 4}, {0, 1, -1},
            {MAX_VALUE, 0, 0}, {0, MIN_VALUE, 0}, {0, 1, MAX_VALUE}};
        for (int[] w : wrong) {
            due("wrong", x.may(w[0], w[1], w[2]), BAD);
            due("wrong to teach", x.teach(w[0], w[1], w[2]), BAD);
        }
    }

    private static void teach() {
        part = "13 teach";
        TaughtHours x = Check.school("p,h,l,w,p");
        x.know(0, 0, 60);
        due("plain", x.teach(0, 1, 0), 60);
        due("hasty", x.teach(1, 2, 0), 61);
        due("loud", x.teach(2, 3, 0), 25);
        due("wrong", x.teach(3, 4, 0), 70);
        due("done", x.count(1), 4);
        due("says", x.told(4, 3), 70);
        due("it knows it", x.teach(0, 4, 0), NOT);
        x.know(4, 0, -1);
        x.hears(4, 0, false);
        due("it does not hear", x.teach(0, 4, 0), NOT);
        x.need(0, 8);
        due("it lacks what that needs", x.teach(1, 4, 0), NOT);
        due("nobody knows it", x.teach(1, 4, 1), NOT);
        due("nothing changed", x.told(4, 1) + x.count(1), 4);
    }

    private static void run() {
        part = "14 run";
        TaughtHours x = Check.school("pab,p,p,p");
        due("no plan", x.run(), 0);
        Check.plan(x, "0>1a;0>2a,1>3a;0>1b,2>3b;0>1b");
        due("the first that may not be ends it", x.run(), 4);
        due("what is done stays", x.told(1, 1) * 1000 + x.told(2, 1) * 100 + x.told(3, 1), 3101);
        due("the plan is kept", x.count(2), 6);
        due("again: the first may not be", x.run(), 0);
        due("done", x.count(1), 4);
        // a child twice in an hour, as a teacher or a pupil
        x = Check.school("pab,p,p");
        Check.plan(x, "0>1a,0>2a");
        due("teaches twice", x.run(), 1);
        x = Check.school("pab,p,p");
        Check.plan(x, "0>1a,1>2a");
        due("not by what it learnt in the hour", x.run(), 1);
        x = Check.school("pa,pb,p");
        Check.plan(x, "0>2a,1>2b");
        due("learns twice", x.run(), 1);
        x = Check.school("pa,pb,p");
        Check.plan(x, "0>2a;1>2b;0>1a");
        due("by hours", x.run(), 3);
        x = Check.school("pab,p");
        x.need(0, 2);
        Check.plan(x, "0>1a;0>1b");
        due("needs", x.run(), 0);
        Check.plan(x, "0>1b;0>1a");
        due("needs", x.run(), 2);
    }

    private static void hours() {
        part = "15 hours";
        for (int set : new int[] {-1, 16, MIN_VALUE, MAX_VALUE}) due("wrong", Check.school("p,p,p,p,p,p").hours(set), BAD);
        due("empty set", Check.school("p,p,p,p,p,p").hours(0), 0);
        due("one alone who knows", Check.school("pa").hours(1), 0);
        due("one alone who does not", Check.school("pa").hours(2), NONE);
        due("doubling", Check.school("pa,p,p,p,p,p").hours(1), 3);
        due("doubling", Check.school("pa,p,p,p").hours(1), 2);
        due("12 goes", Check.school("p,p,p,p,p,p").hours(3), NONE);
        due("18 does not", Check.school("p,p,p,p,p,p").hours(7), FULL);
        due("18 does not, though all is known", Check.school("pabc,pabc,pabc,pabc,pabc,pabc").hours(7), FULL);
        due("15 does not", Check.school("p,p,p,p,p").hours(7), FULL);
        due("16 does not", Check.school("p,p,p,p").hours(15), FULL);
        due("12 goes", Check.school("pa,pb,pc,p").hours(7), 5);
        due("12 goes", Check.school("pabcd,p,p").hours(15), 8);
        due("two swap", Check.school("pa,pb").hours(3), 2);
        TaughtHours x = Check.school("pab,p");
        x.need(0, 2);
        due("needs in the set", x.hours(3), 2);
        due("needs beside the set", x.hours(1), NONE);
        x.need(1, 1);
        due("one needs the other", x.hours(3), NONE);
        x = Check.school("pa,p,p");
        x.hears(2, 0, false);
        due("by another one", x.hours(1), 2);
        x.hears(2, 1, false);
        due("hears nobody", x.hours(1), NONE);
        due("nobody knows it", x.hours(2), NONE);
        due("changes nothing", x.count(4) + x.count(1), 1);
    }

    private static void bound() {
        part = "16 bound";
        for (int set : new int[] {-1, 16, MIN_VALUE, MAX_VALUE}) due("wrong", Check.school("p").bound(set), BAD);
        due("empty set", Check.school("p").bound(0), 0);
        due("one alone who lacks", Check.school("pa").bound(3), NONE);
        due("one alone who does not", Check.school("pab").bound(3), 0);
        due("2: 4 by 1", Check.school("p,p").bound(3), 4);
        due("3: 5 by 1", Check.school("pa,p,p").bound(3), 5);
        due("5: 9 by 2", Check.school("pa,p,p,p,p").bound(3), 5);
        due("6: 24 by 3", Check.school("p,p,p,p,p,p").bound(15), 8);
        due("6: 22 by 3", Check.school("pab,p,p,p,p,p").bound(15), 8);
        due("6: 21 by 3", Check.school("pabc,p,p,p,p,p").bound(15), 7);
        due("others do not count", Check.school("pa,pb").bound(12), 4);
    }

    private static void spared() {
        part = "17 spared";
        TaughtHours x = Check.school("pa,p,p");
        due("no plan", x.spared(), 7);
        Check.plan(x, "0>1a;1>2a");
        due("a chain", x.spared(), 4);
        Check.plan(x, "0>1a;0>2a");
        due("a star", x.spared(), 6);
        Check.plan(x, "0>1a;1>2a;0>2a");
        due("another way", x.spared(), 6);
        Check.plan(x, "1>2a;0>1a;0>2b;0>2a");
        due("what may not be is left out", x.spared(), 6);
        // in an hour the teacher that is spared from one pupil can take the other
        Check.plan(x, "0>1a,0>2a;1>2a");
        due("a child in the hour already", x.spared(), 6);
        // 2, taught in place of 1, is in that hour and does not teach 3
        x = Check.school("pa,p,pb,p");
        Check.plan(x, "0>1a,0>2a,2>3b");
        due("spared 1, 3 misses b", x.spared(), 8);
        // a left out teaching does not keep its children
        x = Check.school("pa,pb,p,p");
        Check.plan(x, "3>1a,0>1a,3>2b;1>2b");
        due("left out", x.spared(), 12);
        due("changes nothing", x.count(4) + x.count(1), 2);
        due("from now on", x.run(), 0);
        x.know(1, 0, 5);
        due("from now on", x.spared(), 13);
    }

    private static void order() {
        part = "18 order";
        TaughtHours x = new TaughtHours();
        int[][] wrong = {{-1, 0}, {16, 0}, {15, -1}, {15, 4}, {MIN_VALUE, 0}, {MAX_VALUE, 0}, {15, MIN_VALUE}, {15, MAX_VALUE}, {16, 9}};
        for (int[] w : wrong) due("wrong", x.order(w[0], w[1]), BAD);
        row(x, 15, 0, 1, 2, 3);
        row(x, 10, 1, 3, NONE, NONE);
        row(x, 0, NONE, NONE, NONE, NONE);
        x.need(0, 8);
        row(x, 15, 1, 2, 3, 0);
        row(x, 7, 0, 1, 2, NONE);
        x.need(3, 2);
        x.need(1, 4);
        row(x, 15, 2, 1, 3, 0);
        row(x, 9, 3, 0, NONE, NONE);
        x.need(2, 1);
        row(x, 15, NONE, NONE, NONE, NONE);
        row(x, 14, 2, 1, 3, NONE);
        row(x, 5, 0, 2, NONE, NONE);
        x.need(0, 0);
        x.need(1, 8);
        row(x, 15, NONE, NONE, NONE, NONE);
        row(x, 7, 0, 1, 2, NONE);
    }

    private static void row(TaughtHours x, int set, int a, int b, int c, int d) {
        int[] want = {a, b, c, d};
        for (int i = 0; i < 4; i++) due("of " + set + " at " + i, x.order(set, i), want[i]);
    }

    private static void mouths() {
        part = "19 mouths";
        TaughtHours x = Check.school("p,p,p,p,p,p");
        int[][] wrong = {{-1, 0}, {4, 0}, {0, -1}, {0, 2}, {MAX_VALUE, 0}, {0, MIN_VALUE}};
        for (int[] w : wrong) due("wrong", x.mouths(w[0], w[1]), BAD);
        int[] trees = {0, 1, 2, 9, 64, 625, 7776};
        for (int n = 0; n <= 6; n++) {
            due("plain ones, ways of " + n, x.mouths(2, 0), trees[n]);
            due("plain ones, first of " + n, x.mouths(2, 1), (1 << n) - 1);
            if (n < 6) x.know(n, 2, 33);
        }
        x.know(3, 2, 32);
        due("one says it otherwise", x.mouths(2, 0), 0);
        due("one says it otherwise", x.mouths(2, 1), 0);
        x = Check.school("h,h,p,p");
        x.know(0, 0, 5);
        x.know(1, 0, 6);
        x.know(2, 0, 7);
        x.know(3, 0, 7);
        // 0 to 1; 2 from 1 or 3, 3 from 1 or 2
        due("a chain that parts", x.mouths(0, 0), 3);
        due("a chain that parts", x.mouths(0, 1), 1);
        x.hears(3, 1, false);
        due("whom it hears", x.mouths(0, 0), 1);
        x.hears(3, 2, false);
        due("hears nobody, but is not the first", x.mouths(0, 0), 0);
        x.need(0, 2);
        x.hears(3, 2, true);
        due("needs do not matter", x.mouths(0, 0), 1);
    }

    private static void from() {
        part = "20 from";
        TaughtHours x = Check.school("pa,pa,p,pa");
        int[][] wrong = {{0, 2}, {1, 0}, {-1, 0}, {4, 0}, {0, -1}, {0, 4}, {MAX_VALUE, 0}, {0, MIN_VALUE}};
        for (int[] w : wrong) due("wrong", x.from(w[0], w[1]), BAD);
        // 0 from 1, then 1 can't have it from 0, but from 3, who had it from nobody
        due("0", x.from(0, 0), 1);
        due("1", x.from(0, 1), 3);
        due("3", x.from(0, 3), 9);
        x.hears(1, 3, false);
        due("0", x.from(0, 0), 1);
        due("1", x.from(0, 1), 9);
        due("3", x.from(0, 3), 0);
        x.hears(0, 1, false);
        due("0", x.from(0, 0), 3);
        due("1", x.from(0, 1), 0);
        due("3", x.from(0, 3), 9);
        x.know(0, 0, 4);
        due("no way", x.from(0, 0), NONE);
        due("no way", x.from(0, 3), NONE);
        due("does not know it", x.from(0, 2), BAD);
        x = Check.school("w,h,l,p");
        x.know(0, 1, 3);
        due("one alone", x.from(1, 0), 9);
        x.teach(0, 2, 1);
        x.teach(2, 1, 1);
        x.teach(1, 3, 1);
        due("as it went", x.from(1, 0), 9);
        due("as it went", x.from(1, 2), 0);
        due("as it went", x.from(1, 1), 2);
        due("as it went", x.from(1, 3), 1);
    }

    private static void lessons() {
        part = "21 lessons";
        TaughtHours x = Check.school("pa,p,h");
        for (int n : new int[] {0, -1, 61, MIN_VALUE, MAX_VALUE}) due("n " + n, x.lessons(n), BAD);
        // 1103527590 by 65536 is 16838: even, so of 0>1a, 0>2a the first
        due("one", x.lessons(1), 1);
        due("who learnt", x.told(1, 1) * 10 + x.told(2, 1), 10);
        due("the draw", x.seed(1103527590), 1103527590);
        // 377401575, of 0>2a, 1>2a; then there is none and the draw stays
        due("the rest", x.lessons(60), 1);
        due("the draw stays", x.seed(5), 377401575);
        due("all know it", x.told(2, 1), 1);
        due("none left", x.lessons(60), 0);
        due("the draw stays", x.seed(9), 5);
        due("done", x.count(1), 2);
        // by who teaches, then who learns, then thing: 0>1a, 0>1b, 0>2a, 0>2b, 0>2c, 1>2c, 2>0d, 2>1d;
        // 16838 by 8 leaves 6
        x = Check.school("pabc,pc,p");
        x.need(2, 8);
        x.know(2, 3, 0);
        due("one", x.lessons(1), 1);
        due("2>0d", x.told(0, 1), 15);
        // 0>1a, 0>1b, 0>2a, 0>2b, 1>2c: 16838 by 5 leaves 3
        x = Check.school("pab,pc,p");
        x.hears(0, 1, false);
        due("one", x.lessons(1), 1);
        due("0>2b", x.told(2, 1), 2);
        x = Check.school("pabcd,h,l,w,p,p");
        due("all", x.lessons(19), 19);
        due("the last", x.lessons(60), 1);
        due("known", x.count(4), 24);
        due("the largest draw", x.seed(MAX_VALUE) >= 0 ? 1 : 0, 1);
        x.know(1, 0, -1);
        due("goes on", x.lessons(1), 1);
        // 2147483647 times 1103515245 and 12345 more: the lowest 31 bits
        due("its lowest 31 bits", x.seed(0), (2147483647L * 1103515245L + 12345L) & 2147483647L);
    }

    private static void seed() {
        part = "22 seed";
        TaughtHours x = new TaughtHours();
        due("at first", x.seed(MAX_VALUE), 1);
        due("then", x.seed(0), MAX_VALUE);
        due("below 0", x.seed(-1), BAD);
        due("below 0", x.seed(MIN_VALUE), BAD);
        due("stays", x.seed(3), 0);
    }

    private static void image() {
        part = "23 image";
        TaughtHours x = new TaughtHours();
        due("of nobody", x.image(), 1);
        x.child(2);
        x.child(1);
        x.restore();
        due("nobody again", x.count(0), 0);
        due("none is there", x.told(0, 0), BAD);
        x.child(3);
        due("a new one", x.told(0, 0), 3);
        due("in its place", x.image(), 1);
        x.child(0);
        due("restored", x.restore(), 1);
        due("the newer one", x.count(0), 1);
    }

    private static void restore() {
        part = "24 restore";
        TaughtHours x = Check.school("pab,h,l");
        due("none", x.restore(), NONE);
        x.need(2, 3);
        x.hears(2, 0, false);
        x.seed(99);
        x.know(1, 3, 44);
        Check.plan(x, "0>1a;1>2a");
        x.teach(0, 1, 1);
        x.sheet(0, 2, 5);
        x.type(Check.word("0>1"), 3);
        x.image();
        x.type(Check.word("d"), 1);
        x.sheet(1, 0, 4);
        x.drop(0);
        due("the tape is not in it", x.restore(), 1);
        due("the tape", x.type(Check.word(" "), 1), 5);
        due("read", x.plan(), 1);
        x.run();
        x.lessons(9);
        x.need(2, 0);
        x.hears(2, 0, true);
        x.hears(0, 1, false);
        x.child(3);
        due("again", x.restore(), 1);
        due("children", x.count(0), 3);
        due("done", x.count(1), 1);
        due("plan", x.count(2) * 10 + x.count(3), 22);
        due("known", x.count(4) * 10 + x.count(5), 41);
        due("needs", x.need(2, 3), 3);
        due("hears", x.told(2, 2) * 10 + x.told(0, 2), 26);
        due("the draw", x.seed(99), 99);
        due("says", x.told(1, 6), 44);
        due("sheets are not in it", x.drop(0), NULL);
        due("sheets are not in it", x.drop(1), 4);
        due("the plan runs", x.run(), 2);
        Check.type(x, "p");
        x.school();
        due("as often as wanted", x.restore(), 1);
        due("children", x.count(0), 3);
        due("plan", x.run(), 2);
        due("kinds", x.told(1, 0) * 10 + x.told(2, 0), 12);
        x.child(0);
        due("who comes then hears", x.told(3, 2), 7);
        due("who comes then knows nothing", x.told(3, 1), 0);
    }

    private static void put(TaughtHours x, int sheet, int lane, int... items) {
        x.sheet(sheet, lane, items.length);
        for (int i = 0; i < items.length; i++) x.item(sheet, lane, i, items[i]);
    }

    private static void hour() {
        part = "25 hour";
        TaughtHours x = Check.school("pa,hb,lc,p,p,p");
        put(x, 1, 0, 7, 0, 3, 0, 1, 4, 1, 2, 5, 2, 0);
        int[][] wrong = {{-1, 0, 1, 1}, {4, 0, 1, 1}, {1, -1, 1, 1}, {1, 3, 1, 1}, {1, 0, 1, 0}, {1, 0, 1, 4}, {1, 0, 1, MIN_VALUE},
            {0, 0, -1, 0}, {0, 2, 99, MAX_VALUE}, {MAX_VALUE, 0, 1, 1}, {1, MIN_VALUE, 1, 1}};
        for (int[] w : wrong) due("wrong", x.hour(w[0], w[1], w[2], w[3]), BAD);
        due("missing", x.hour(0, 0, 99, 1), NULL);
        due("another lane", x.hour(1, 1, 99, 1), CAST);
        int[][] out = {{-1, 1}, {3, 3}, {9, 1}, {11, 1}, {MAX_VALUE, 1}, {MIN_VALUE, 3}, {MAX_VALUE - 2, 1}};
        for (int[] w : out) due("index", x.hour(1, 0, w[0], w[1]), INDEX);
        due("nothing done", x.count(1), 0);
        due("three at once", x.hour(1, 0, 1, 3), 3);
        due("done", x.count(1) * 10 + x.count(4), 36);
        due("learnt", x.told(3, 1) * 100 + x.told(4, 1) * 10 + x.told(5, 1), 124);
        due("as each passes", x.told(3, 3) * 100 + x.told(4, 4) * 10 + x.told(5, 5), 10);
        due("may not be", x.hour(1, 0, 1, 1), NOT);
        x = Check.school("pabc,p,p,p,p");
        put(x, 2, 2, 0, 1, 0, 0, 2, 1, 1, 3, 0);
        due("a child in two", x.hour(2, 2, 0, 2), NOT);
        due("not by what is learnt in it", x.hour(2, 2, 0, 3), NOT);
        put(x, 2, 2, 0, 1, 0, 2, 2, 0);
        due("a later one is wrong", x.hour(2, 2, 0, 2), NOT);
        put(x, 2, 2, 0, 1, 0, 2, 3, 0);
        due("a later one may not be", x.hour(2, 2, 0, 2), NOT);
        due("nothing done", x.count(1) * 10 + x.count(4), 3);
        due("the first alone", x.hour(2, 2, 0, 1), 1);
        int[][] items = {{0, 5, 0}, {5, 0, 0}, {-1, 2, 0}, {0, -1, 0}, {0, 2, 4}, {0, 2, -1}, {0, 0, 0}, {0, MAX_VALUE, 0}, {MIN_VALUE, 2, 0}, {0, 2, MAX_VALUE}};
        for (int[] i : items) {
            put(x, 3, 2, i);
            due("an item names nothing", x.hour(3, 2, 0, 1), NOT);
        }
        put(x, 0, 1, 0, 0);
        due("too short", x.hour(0, 1, 0, 1), INDEX);
        x.sheet(0, 1, 0);
        due("empty", x.hour(0, 1, 0, 1), INDEX);
        due("a sheet stays", x.drop(2), 6);
    }

    private static void film() {
        part = "26 film";
        TaughtHours x = Check.school("pa,p,p,pa,p");
        x.know(1, 0, 2);
        x.know(2, 0, 0);
        x.know(4, 0, 1);
        x.sheet(0, 0, 8);
        int[][] wrong = {{-1, 0, 0, 0}, {4, 0, 0, 0}, {0, -1, 0, 0}, {0, 4, 0, 0}, {0, 0, -1, 0}, {0, 0, 3, 0}, {4, 3, 0, 0}, {0, 3, 9, 99}, {MAX_VALUE, 0, 0, 0}};
        for (int[] w : wrong) due("wrong", x.film(w[0], w[1], w[2], w[3]), BAD);
        due("missing", x.film(0, 1, 0, 99), NULL);
        due("another lane", x.film(0, 0, 1, 99), CAST);
        for (int from : new int[] {-1, 4, 9, MAX_VALUE, MIN_VALUE}) due("index", x.film(0, 0, 0, from), INDEX);
        due("to the end", x.film(0, 0, 0, 3), 5);
        // the row is 0 0 0 0 2 0 0 1 then: read back as 2 > 0, 0 > 1
        x.know(0, 0, -1);
        due("read back", x.hour(0, 0, 4, 1), 1);
        due("who learnt", x.told(0, 1), 1);
        // 1 2 0 of the first three: read back as 1 > 2 a
        x = Check.school("p,p,p");
        x.know(0, 1, 1);
        x.know(1, 1, 2);
        x.know(2, 1, 0);
        x.know(1, 0, 5);
        x.sheet(0, 1, 3);
        due("all of them", x.film(1, 0, 1, 0), 3);
        due("read back", x.hour(0, 1, 0, 1), 1);
        due("what it says", x.told(2, 3), 5);
        for (int lane = 0; lane < 3; lane++) {
            x.sheet(1, lane, 6);
            due("lane", x.film(3, 1, lane, 3), 3);
            due("lane", x.film(2, 1, lane, 0), 3);
            due("97 is no child", x.hour(1, lane, 0, 1), NOT);
        }
        x = new TaughtHours();
        x.sheet(0, 0, 2);
        due("nobody", x.film(0, 0, 0, 2), 0);
        due("nobody, from outside", x.film(0, 0, 0, 3), INDEX);
        due("nobody, from outside", x.film(0, 0, 0, -1), INDEX);
    }

    private static void sheet() {
        part = "27 sheet";
        TaughtHours x = Check.school("pa,p");
        for (int lane = 0; lane < 3; lane++) {
            due("none", x.sheet(lane, lane, 0), 0);
            due("most", x.sheet(lane, lane, 24), 24);
            due("the last item", x.item(lane, lane, 23, 1), 1);
        }
        int[][] bad = {{-1, 0, 1}, {4, 0, 1}, {0, -1, 1}, {0, 3, 1}, {0, 0, 25}, {0, 0, MAX_VALUE}, {4, 0, -1}, {0, 3, -1}, {MIN_VALUE, 0, 0}};
        for (int[] w : bad) due("bad", x.sheet(w[0], w[1], w[2]), BAD);
        due("size", x.sheet(0, 2, -1), SIZE);
        due("size", x.sheet(3, 0, MIN_VALUE), SIZE);
        due("stays nothing", x.drop(3), NULL);
        due("stays", x.item(0, 0, 23, 1), 1);
        // a new row holds nothing of the one before it
        put(x, 0, 0, 0, 1, 0);
        x.sheet(0, 0, 3);
        due("new", x.hour(0, 0, 0, 1), NOT);
        x.item(0, 0, 1, 1);
        due("new", x.hour(0, 0, 0, 1), 1);
        x.sheet(0, 1, 4);
        due("another lane then", x.item(0, 0, 0, 1), CAST);
        due("how many", x.drop(0), 4);
    }

    private static void drop() {
        part = "28 drop";
        TaughtHours x = new TaughtHours();
        for (int s : new int[] {-1, 4, MIN_VALUE, MAX_VALUE}) due("wrong", x.drop(s), BAD);
        due("nothing", x.drop(3), NULL);
        x.sheet(3, 1, 7);
        x.sheet(2, 1, 0);
        due("seven", x.drop(3), 7);
        due("then nothing", x.drop(3), NULL);
        due("none", x.drop(2), 0);
        due("then nothing", x.drop(2), NULL);
        due("nothing to take", x.item(3, 1, 0, 0), NULL);
    }

    private static void item() {
        part = "29 item";
        TaughtHours x = Check.school("pa,p,p,p");
        x.sheet(0, 0, 3);
        int[][] wrong = {{-1, 0, 0}, {4, 0, 0}, {0, -1, 0}, {0, 3, 0}, {1, 3, 0}, {MAX_VALUE, 0, 0}, {0, MIN_VALUE, 0}};
        for (int[] w : wrong) due("wrong", x.item(w[0], w[1], w[2], 0), BAD);
        due("missing", x.item(1, 0, 9, 0), NULL);
        due("another lane", x.item(0, 2, 9, 0), CAST);
        for (int i : new int[] {-1, 3, MAX_VALUE, MIN_VALUE}) due("index", x.item(0, 0, i, 0), INDEX);
        due("fine", x.item(0, 0, 1, 0x101), 1);
        due("its lowest 8 bits", x.hour(0, 0, 0, 1), 1);
        x.sheet(0, 1, 3);
        x.item(0, 1, 1, 0x102);
        due("more than 8 bits", x.hour(0, 1, 0, 1), NOT);
        x.item(0, 1, 1, 0x10002);
        due("its lowest 16 bits", x.hour(0, 1, 0, 1), 1);
        x.sheet(0, 2, 3);
        x.item(0, 2, 1, 0x10003);
        due("more than 16 bits", x.hour(0, 2, 0, 1), NOT);
        x.item(0, 2, 1, 3);
        due("all bits", x.hour(0, 2, 0, 1), 1);
    }

    private static void copy() {
        part = "30 copy";
        TaughtHours x = Check.school("pabcd,p,p,p");
        put(x, 0, 0, 0, 1, 2, 3);
        int[][] wrong = {{-1, 0}, {4, 0}, {0, -1}, {0, 4}, {MAX_VALUE, 1}, {1, MIN_VALUE}};
        for (int[] w : wrong) due("wrong", x.copy(w[0], 0, w[1], 0, 1), BAD);
        due("missing", x.copy(0, 9, 1, 0, 1), NULL);
        due("missing", x.copy(1, 9, 0, 0, 1), NULL);
        due("missing", x.copy(1, 0, 1, 0, 0), NULL);
        x.sheet(1, 1, 4);
        due("lanes", x.copy(0, 9, 1, 9, -1), CAST);
        x.sheet(1, 0, 3);
        int[][] out = {{0, 0, 4}, {-1, 0, 1}, {0, -1, 1}, {4, 0, 1}, {0, 3, 1}, {0, 0, -1}, {5, 0, 0}, {0, 4, 0}, {2, 0, 3},
            {MAX_VALUE, 0, 1}, {0, MAX_VALUE, 1}, {0, 0, MAX_VALUE}, {1, 1, MAX_VALUE}, {MIN_VALUE, 0, 0}, {0, MIN_VALUE, 0}, {0, 0, MIN_VALUE}};
        for (int[] w : out) due("index", x.copy(0, w[0], 1, w[1], w[2]), INDEX);
        due("none at the end", x.copy(0, 4, 1, 3, 0), 0);
        due("to another one", x.copy(0, 0, 1, 0, 3), 3);
        due("read back: 0 > 1 c", x.hour(1, 0, 0, 1), 1);
        due("learnt", x.told(1, 1), 4);
        // 0 1 2 3 becomes 0 0 1 2: from the second on 0 > 1 c again, then with b in place of it
        due("the same, to behind", x.copy(0, 0, 0, 1, 3), 3);
        due("read back", x.hour(0, 0, 1, 1), NOT);
        x.know(1, 2, -1);
        due("read back", x.hour(0, 0, 1, 1), 1);
        due("learnt", x.told(1, 1), 4);
        // 0 0 1 2 becomes 0 1 2 2
        due("the same, to before", x.copy(0, 1, 0, 0, 3), 3);
        x.know(1, 2, -1);
        due("read back", x.hour(0, 0, 0, 1), 1);
        due("all of it onto itself", x.copy(0, 0, 0, 0, 4), 4);
    }
}
