import static java.lang.Integer.MAX_VALUE;
import static java.lang.Integer.MIN_VALUE;

/** Boundary cases of part 3, mouths and lessons: promises 19 to 24, a sentence a test. */
public final class EdgesMouthsTest {
    private static final int BAD = -1, NONE = -4, NULL = -11;
    // 1103515245 times this leaves 1 by 2 to the 31st: so the draw ahead of a draw can be told
    private static final long INVERSE = 1857678181L;

    public static void main(String[] args) {
        mouthsWrong(); mouthsNobodyKnows(); mouthsOneAlone(); mouthsMost(); mouthsOneFromNobody(); mouthsNoCircle();
        mouthsHears(); mouthsSays(); mouthsWraps(); mouthsWhoKnowAlone();
        fromWrong(); fromNobody(); fromFirstWay(); fromNoWay(); fromLastChild();
        lessonsHowMany(); lessonsOne(); lessonsEnds(); lessonsDrawStays(); lessonsCut(); lessonsOrder(); lessons31Bits(); lessonsMost();
        lessonsWrap();
        seedFirst(); seedEnds();
        imageOfNobody(); imageInPlace(); imageOfAll(); imageNot(); imageIsApart();
        restoreNone(); restoreOften(); restoreFull();
        Check.end();
    }

    // ---- 19

    private static void mouthsWrong() {
        Check.sentence("19 mouths", "how many ways (0), who may have been first (1). BAD.");
        TaughtHours x = Check.school("pabcd,pabcd");
        for (int t : Check.outside(4)) for (int what = 0; what < 2; what++) Check.due("thing " + t, x.mouths(t, what), BAD);
        for (int what : new int[] {-1, 2, MIN_VALUE, MAX_VALUE}) Check.due("what " + what, x.mouths(0, what), BAD);
        for (int t = 0; t < 4; t++) {
            Check.due("ways", x.mouths(t, 0), 2);
            Check.due("first", x.mouths(t, 1), 3);
        }
    }

    private static void mouthsNobodyKnows() {
        Check.sentence("19 mouths", "One of them had it from nobody (nobody knows it)");
        TaughtHours x = Check.school("pbcd,pbcd,pbcd,pbcd,pbcd,pbcd");
        Check.due("ways", x.mouths(0, 0), 0);
        Check.due("first", x.mouths(0, 1), 0);
    }

    private static void mouthsOneAlone() {
        Check.sentence("19 mouths", "One of them had it from nobody (one alone knows it)");
        for (int c = 0; c < 6; c++) {
            TaughtHours x = Check.school("p,h,l,w,p,h");
            x.know(c, 3, 96);
            Check.due("ways", x.mouths(3, 0), 1);
            Check.due("first", x.mouths(3, 1), 1 << c);
            Check.due("from", x.from(3, c), 9);
        }
    }

    private static void mouthsMost() {
        Check.sentence("19 mouths", "How many such ways there are (as many as there can be)");
        // rooted trees on n marked places: n to the (n - 1)
        TaughtHours x = Check.school("p,p,p,p,p,p");
        int[] trees = {0, 1, 2, 9, 64, 625, 7776};
        for (int n = 1; n <= 6; n++) {
            x.know(n - 1, 0, 96);
            Check.due(n + " plain ones", x.mouths(0, 0), trees[n]);
            Check.due(n + " plain ones", x.mouths(0, 1), (1 << n) - 1);
        }
        // 0 doubled is 0, and 96 is what the wrong one's pupil says of 96
        x = Check.school("la,la,la,la,la,la");
        Check.due("loud ones", x.mouths(0, 0), 7776);
        x = Check.school("w,w,w,w,w,w");
        for (int c = 0; c < 6; c++) x.know(c, 0, 96);
        Check.due("wrong ones", x.mouths(0, 0), 7776);
    }

    private static void mouthsOneFromNobody() {
        Check.sentence("19 mouths", "One of them had it from nobody, each other one from another");
        TaughtHours x = Check.school("p,p,p");
        x.know(0, 0, 1);
        x.know(1, 0, 2);
        Check.due("two, of which none can have it from the other", x.mouths(0, 0) * 10 + x.mouths(0, 1), 0);
        x.know(2, 0, 2);
        Check.due("nor with a third", x.mouths(0, 0) * 10 + x.mouths(0, 1), 0);
        x.know(0, 0, 2);
        Check.due("all alike", x.mouths(0, 0) * 10 + x.mouths(0, 1), 97);
    }

    private static void mouthsNoCircle() {
        Check.sentence("19 mouths", "nobody had it by others from itself");
        // 0 and 1 can have it from each other alone, so can 2 and 3
        TaughtHours x = Check.school("p,p,p,p");
        int[] says = {5, 5, 6, 6};
        for (int c = 0; c < 4; c++) x.know(c, 0, says[c]);
        Check.due("two pairs", x.mouths(0, 0) * 10 + x.mouths(0, 1), 0);
        // two wrong ones: 0 says 10 and 1 says 85, each what the other's pupil would say
        x = Check.school("w,w");
        x.know(0, 0, 10);
        x.know(1, 0, 85);
        Check.due("each from the other, not both", x.mouths(0, 0) * 10 + x.mouths(0, 1), 23);
        // three in a ring, each hears the one ahead of it
        x = Check.school("pa,pa,pa");
        x.hears(0, 1, false);
        x.hears(1, 2, false);
        x.hears(2, 0, false);
        Check.due("a ring, cut at any of three", x.mouths(0, 0) * 10 + x.mouths(0, 1), 37);
    }

    private static void mouthsHears() {
        Check.sentence("19 mouths", "from another of these whom it HEARS");
        TaughtHours x = Check.school("pa,pa");
        x.hears(0, 1, false);
        Check.due("0 hears nobody", x.mouths(0, 0) * 10 + x.mouths(0, 1), 11);
        x.hears(1, 0, false);
        Check.due("nor does 1", x.mouths(0, 0) * 10 + x.mouths(0, 1), 0);
        x.hears(0, 1, true);
        Check.due("0 hears 1", x.mouths(0, 0) * 10 + x.mouths(0, 1), 12);
    }

    private static void mouthsSays() {
        Check.sentence("19 mouths", "and SAYS what that one's pupil would SAY");
        int[] kinds = {0, 1, 2, 3};
        int[] pupil = {40, 41, 80, 55};
        for (int k : kinds) {
            for (int says = 38; says <= 82; says++) {
                TaughtHours x = new TaughtHours();
                x.child(k);
                x.child(0);
                x.know(0, 1, 40);
                x.know(1, 1, says);
                int want = (says == pupil[k] ? 1 : 0) + (says == 40 ? 2 : 0);
                Check.due("kind " + k + " says " + says, x.mouths(1, 1), want);
                Check.due("ways", x.mouths(1, 0), Integer.bitCount(want));
            }
        }
    }

    private static void mouthsWraps() {
        Check.sentence("19 mouths", "all as the rest by 97");
        int[][] wraps = {{1, 96, 0}, {2, 49, 1}, {2, 96, 95}, {3, 95, 0}};
        for (int[] w : wraps) {
            TaughtHours x = new TaughtHours();
            x.child(w[0]);
            x.child(w[0]);
            x.know(0, 0, w[1]);
            x.know(1, 0, w[2]);
            int back = w[0] == 3 ? 3 : 1;
            Check.due("kind " + w[0] + " says " + w[1], x.mouths(0, 1), back);
        }
    }

    private static void mouthsWhoKnowAlone() {
        Check.sentence("19 mouths", "all CHILDREN who know it SAY something (the others do not matter)");
        TaughtHours x = Check.school("p,ha,p,p,pa,p");
        x.know(4, 0, 1);
        Check.due("1 to 4", x.mouths(0, 0) * 100 + x.mouths(0, 1), 102);
        x.know(0, 0, 3);
        Check.due("0 says otherwise", x.mouths(0, 0) * 100 + x.mouths(0, 1), 0);
        x.know(0, 0, -1);
        Check.due("0 does not know it any more", x.mouths(0, 0) * 100 + x.mouths(0, 1), 102);
        // 97, not to know it, is not a saying that is passed on: by 1 more, doubled, backwards it would be one
        String[] others = {"p", "h", "l", "w"};
        int[] says = {96, 1, 0, 95};
        for (int k = 0; k < 4; k++) {
            x = Check.school(others[k] + ",p,p,p");
            for (int c = 1; c < 4; c++) x.know(c, 0, says[k]);
            Check.due("who does not know it is " + others[k], x.mouths(0, 0) * 100 + x.mouths(0, 1), 914);
            Check.due("from", x.from(0, 1) * 100 + x.from(0, 2) * 10 + x.from(0, 3), 239);
        }
    }

    // ---- 20

    private static void fromWrong() {
        Check.sentence("20 from", "BAD: also one that does not know it");
        TaughtHours x = Check.school("pa,p,pa");
        for (int c : new int[] {-1, 3, 5, 6, MIN_VALUE, MAX_VALUE}) Check.due("child " + c, x.from(0, c), BAD);
        for (int t : Check.outside(4)) Check.due("thing " + t, x.from(t, 0), BAD);
        Check.due("does not know it", x.from(0, 1), BAD);
        Check.due("nobody knows it", x.from(3, 0), BAD);
        Check.due("the first", x.from(0, 0), 2);
        Check.due("the last", x.from(0, 2), 9);
    }

    private static void fromNobody() {
        Check.sentence("20 from", "9: nobody");
        for (int c = 0; c < 6; c++) {
            TaughtHours x = Check.school("h,h,h,h,h,h");
            for (int o = 0; o < 6; o++) x.know(o, 2, o == c ? 96 : 0);
            for (int o = 0; o < 6; o++) Check.due("child " + o, x.from(2, o), o == c ? 9 : c);
        }
    }

    private static void fromFirstWay() {
        Check.sentence("20 from", "by the first (as a row for all CHILDREN who know it, by numbers)");
        // the lowest row: 0 from 1, 1 from 2 and so on, the last from nobody
        TaughtHours x = Check.school("pa,pa,pa,pa,pa,pa");
        int[] want = {1, 2, 0, 0, 0, 0};
        // 0 from 1, 1 from 2 (not from 0), then 2 can have it neither from 0 nor 1 nor itself: from 3
        want[2] = 3;
        want[3] = 4;
        want[4] = 5;
        want[5] = 9;
        for (int c = 0; c < 6; c++) Check.due("child " + c, x.from(0, c), want[c]);
        x.know(1, 0, -1);
        int[] then = {2, BAD, 3, 4, 5, 9};
        for (int c = 0; c < 6; c++) Check.due("without 1: " + c, x.from(0, c), then[c]);
        // where 0 must have been the first, all others have it from it, the lowest
        x = Check.school("ha,p,p,p");
        for (int c = 1; c < 4; c++) x.know(c, 0, 1);
        int[] star = {9, 0, 0, 0};
        for (int c = 0; c < 4; c++) Check.due("by 0: " + c, x.from(0, c), star[c]);
    }

    private static void fromNoWay() {
        Check.sentence("20 from", "NONE: there is no way.");
        TaughtHours x = Check.school("p,p,p");
        x.know(0, 0, 5);
        x.know(2, 0, 6);
        Check.due("0", x.from(0, 0), NONE);
        Check.due("2", x.from(0, 2), NONE);
        Check.due("who does not know it", x.from(0, 1), BAD);
    }

    private static void fromLastChild() {
        Check.sentence("20 from", "from whom a child had it (the last from the first, the first from the last)");
        TaughtHours x = Check.school("l,p,p,p,p,w");
        x.know(0, 3, 50);
        x.know(5, 3, 3);
        Check.due("0 first", x.from(3, 0) * 10 + x.from(3, 5), 90);
        x.know(0, 3, 92);
        Check.due("5 first", x.from(3, 0) * 10 + x.from(3, 5), 59);
    }

    // ---- 21

    private static void lessonsHowMany() {
        Check.sentence("21 lessons", "n (1 .. 60). BAD.");
        for (int n : new int[] {0, -1, 61, MIN_VALUE, MAX_VALUE}) {
            TaughtHours x = Check.school("pabcd,p,p");
            Check.due("n " + n, x.lessons(n), BAD);
            Check.due("none is done", x.count(1), 0);
            Check.due("the draw", x.seed(0), 1);
        }
        Check.due("1", Check.school("pabcd,p,p").lessons(1), 1);
        Check.due("60", Check.school("pabcd,p,p").lessons(60), 8);
    }

    private static void lessonsOne() {
        Check.sentence("21 lessons", "how many are done");
        for (int n = 1; n <= 10; n++) {
            TaughtHours x = Check.school("pabcd,p,p");
            Check.due("n " + n, x.lessons(n), Math.min(n, 8));
            Check.due("count", x.count(1), Math.min(n, 8));
            Check.due("known", x.count(4), 4 + Math.min(n, 8));
        }
        // one by one and at once it is the same
        TaughtHours x = Check.school("habcd,l,w");
        TaughtHours y = Check.school("habcd,l,w");
        x.lessons(8);
        for (int i = 0; i < 8; i++) y.lessons(1);
        for (int t = 0; t < 4; t++) Check.due("thing " + t, x.mouths(t, 1) * 1000000L + Check.sayings(x, t), y.mouths(t, 1) * 1000000L + Check.sayings(y, t));
        Check.due("the draw", x.seed(0), y.seed(0));
    }

    private static void lessonsEnds() {
        Check.sentence("21 lessons", "if there is none, it ends");
        Check.due("nobody", new TaughtHours().lessons(60), 0);
        Check.due("one alone", Check.school("pabcd").lessons(60), 0);
        Check.due("nobody knows anything", Check.school("p,p,p,p,p,p").lessons(60), 0);
        Check.due("all know all", Check.school("pabcd,pabcd").lessons(60), 0);
        TaughtHours x = Check.school("pabcd,p");
        x.hears(1, 0, false);
        Check.due("none is heard", x.lessons(60), 0);
        x.hears(1, 0, true);
        x.need(3, 1);
        x.need(0, 8);
        Check.due("two need one another", x.lessons(60), 2);
        Check.due("b and c", x.told(1, 1), 6);
    }

    private static void lessonsDrawStays() {
        Check.sentence("21 lessons", "if there is none, it ends (THE DRAW stays)");
        TaughtHours x = Check.school("pa,p");
        x.know(1, 0, 0);
        x.seed(5);
        Check.due("none", x.lessons(60), 0);
        Check.due("the draw", x.seed(5), 5);
        x.know(1, 0, -1);
        Check.due("one", x.lessons(60), 1);
        Check.due("moved once", x.seed(0), (5L * 1103515245L + 12345L) % 2147483648L);
    }

    /** The draw from which this one comes next. */
    private static int before(long draw) {
        return (int) ((draw - 12345L + 2147483648L) % 2147483648L * INVERSE % 2147483648L);
    }

    private static void lessonsCut() {
        Check.sentence("21 lessons", "the rest of THE DRAW by 65536 (cut) by how many there are");
        Check.due("how it is turned back", before(1103527590L), 1);
        // child 0 can teach each of the five others one thing
        int[] kinds = {0, 0, 0, 0, 0, 0};
        for (int quotient : new int[] {0, 1, 2, 4, 5, 6, 9, 10, 32766, 32767}) {
            for (int rest : new int[] {0, 1, 65534, 65535}) {
                TaughtHours x = new TaughtHours();
                for (int k : kinds) x.child(k);
                x.know(0, 0, 0);
                x.seed(before(quotient * 65536L + rest));
                Check.due("one", x.lessons(1), 1);
                Check.due("by " + quotient + " and " + rest, x.told(1 + quotient % 5, 1), 1);
                Check.due("the draw", x.seed(0), quotient * 65536L + rest);
            }
        }
    }

    private static void lessonsOrder() {
        Check.sentence("21 lessons", "of all TEACHINGS that MAY be, by who teaches, then who learns, then THING");
        int[][] all = {{0, 1, 2}, {0, 1, 3}, {0, 2, 3}, {1, 0, 0}, {1, 2, 0}, {2, 0, 1}, {2, 1, 1}, {2, 1, 2}};
        for (int i = 0; i < all.length; i++) {
            TaughtHours x = Check.school("pcd,pa,pbc");
            x.seed(before(i * 65536L));
            int known = x.told(all[i][1], 1);
            Check.due("one", x.lessons(1), 1);
            Check.due("the " + i + "th", x.told(all[i][1], 1), known | 1 << all[i][2]);
            Check.due("one more", x.count(4), 6);
            // from whom is seen by what it says
            x = Check.school("pcd,pa,pbc");
            for (int c = 0; c < 3; c++) for (int t = 0; t < 4; t++) if (x.told(c, 3 + t) == 0) x.know(c, t, 10 + c);
            x.seed(before((8 + i) * 65536L));
            x.lessons(1);
            Check.due("by whom", x.told(all[i][1], 3 + all[i][2]), 10 + all[i][0]);
        }
        // the last of all: 5 teaches 4 d; the first: 0 teaches 1 a
        TaughtHours x = Check.school("pabcd,pabcd,pabcd,pabcd,pabc,pabcd");
        x.seed(before(4 * 65536L));
        x.know(0, 3, 10);
        x.know(5, 3, 20);
        x.lessons(1);
        Check.due("the last", x.told(4, 6), 20);
        x = Check.school("pabcd,pbcd,pabcd,pabcd,pabcd,pabcd");
        x.seed(before(0));
        x.know(0, 0, 10);
        x.know(5, 0, 20);
        x.lessons(1);
        Check.due("the first", x.told(1, 3), 10);
    }

    private static void lessons31Bits() {
        Check.sentence("21 lessons", "the lowest 31 bits of itself times 1103515245 and 12345 more");
        for (int draw : new int[] {0, 1, 2, 65535, 65536, 1073741823, 1073741824, MAX_VALUE - 1, MAX_VALUE}) {
            TaughtHours x = Check.school("pa,p,p");
            x.seed(draw);
            x.lessons(1);
            long want = draw * 1103515245L + 12345L & 0x7fffffffL;
            Check.due("behind " + draw, x.seed(0), want);
        }
        TaughtHours x = Check.school("pa,p,p");
        x.seed(before(MAX_VALUE));
        Check.due("to the largest", x.lessons(1), 1);
        Check.due("the largest", x.seed(before(0)), MAX_VALUE);
        Check.due("to 0", x.lessons(1), 1);
        Check.due("0", x.seed(0), 0);
    }

    private static void lessonsMost() {
        Check.sentence("21 lessons", "n times (as many as there can be)");
        TaughtHours x = Check.school("pabcd,p,p,p,p,p");
        Check.due("all", x.lessons(60), 20);
        Check.due("known", x.count(4), 24);
        // the most that can be chosen from: three who know all, three who know nothing
        for (int seed = 0; seed < 40; seed++) {
            x = Check.school("pabcd,pabcd,pabcd,p,p,p");
            x.seed(before(seed * 65536L));
            Check.due("one", x.lessons(1), 1);
            int at = seed % 36;
            Check.due("who learnt what", x.told(3 + at / 4 % 3, 1), 1 << at % 4);
        }
    }

    private static void lessonsWrap() {
        Check.sentence("21 lessons", "all as the rest by 97");
        int[][] wraps = {{0, 96, 96}, {1, 96, 0}, {2, 49, 1}, {3, 96, 96}, {3, 95, 0}};
        for (int[] w : wraps) {
            TaughtHours x = new TaughtHours();
            x.child(w[0]);
            x.child(0);
            x.know(0, 2, w[1]);
            x.lessons(1);
            Check.due("kind " + w[0] + " says " + w[1], x.told(1, 5), w[2]);
        }
    }

    // ---- 22

    private static void seedFirst() {
        Check.sentence("22 seed", "THE DRAW is a number of 31 bits (1 at first): what it was");
        TaughtHours x = new TaughtHours();
        Check.due("at first", x.seed(0), 1);
        Check.due("0", x.seed(MAX_VALUE), 0);
        Check.due("the largest", x.seed(7), MAX_VALUE);
        Check.due("7", x.seed(7), 7);
    }

    private static void seedEnds() {
        Check.sentence("22 seed", "BAD: below 0.");
        for (int v : new int[] {-1, -2, MIN_VALUE}) {
            TaughtHours x = new TaughtHours();
            x.seed(44);
            Check.due("v " + v, x.seed(v), BAD);
            Check.due("as before", x.seed(0), 44);
        }
    }

    // ---- 23, 24

    private static void imageOfNobody() {
        Check.sentence("23 image", "All is kept as an IMAGE: 1. (nobody)");
        TaughtHours x = new TaughtHours();
        Check.due("image", x.image(), 1);
        Check.type(x, "habcd,l,w");
        x.school();
        x.need(0, 8);
        x.seed(6);
        x.lessons(3);
        Check.due("restore", x.restore(), 1);
        for (int what = 0; what < 6; what++) Check.due("count " + what, x.count(what), 0);
        Check.due("need", x.need(0, 0), 0);
        Check.due("draw", x.seed(1), 1);
        Check.due("the first again", x.child(2), 0);
        Check.due("knows nothing", x.told(0, 1), 0);
        Check.due("hears nobody", x.told(0, 2), 0);
    }

    private static void imageInPlace() {
        Check.sentence("23 image", "kept as an IMAGE (one alone, the newest)");
        TaughtHours x = Check.school("p");
        x.image();
        x.child(0);
        Check.due("another", x.image(), 1);
        x.child(0);
        Check.due("restore", x.restore(), 1);
        Check.due("two", x.count(0), 2);
        Check.due("restore", x.restore(), 1);
        Check.due("two", x.count(0), 2);
    }

    private static TaughtHours six() {
        TaughtHours x = Check.school("wabcd,labcd,habcd,pabcd,h,l");
        for (int c = 0; c < 6; c++) {
            x.hears(c, (c + 1) % 6, false);
            for (int t = 0; t < 4; t++) x.know(c, t, c < 5 ? 10 * c + t : -1);
        }
        for (int t = 0; t < 4; t++) x.need(t, t == 3 ? 0 : 14 & ~((2 << t) - 1));
        x.seed(123456789);
        Check.plan(x, "0>5d;1>5c;2>5b,3>4a");
        x.teach(3, 5, 3);
        x.know(5, 3, -1);
        return x;
    }

    private static void imageOfAll() {
        Check.sentence("24 restore", "All is as it was then: 1.");
        Twin.alike("all changed since", EdgesMouthsTest::sixKept, EdgesMouthsTest::sixKept, x -> {
            x.run();
            x.lessons(60);
            for (int t = 0; t < 4; t++) x.need(t, 0);
            for (int a = 0; a < 6; a++) for (int b = 0; b < 6; b++) x.hears(a, b, b == (a + 1) % 6);
            for (int c = 0; c < 6; c++) for (int t = 0; t < 4; t++) x.know(c, t, 95 - c);
            Check.plan(x, "5>4d,1>0a");
            x.seed(3);
            return x.restore();
        });
        // the kinds come back too
        Twin.alike("a new school since", EdgesMouthsTest::sixKept, EdgesMouthsTest::sixKept, x -> {
            Check.type(x, "p,w,l,p,p,w");
            x.school();
            return x.restore();
        });
        Twin.alike("nobody left since but one", EdgesMouthsTest::sixKept, EdgesMouthsTest::sixKept, x -> {
            Check.type(x, "h");
            x.school();
            return x.restore();
        });
        Twin.alike("nothing changed since", EdgesMouthsTest::sixKept, EdgesMouthsTest::sixKept, TaughtHours::restore);
    }

    private static TaughtHours sixKept() {
        TaughtHours x = six();
        x.image();
        return x;
    }

    private static void imageNot() {
        Check.sentence("23 image", "All but SHEETS, THE TAPE");
        TaughtHours x = Check.school("pa,p,p,p,p,p");
        Check.sheet(x, 0, 0, 1, 2, 3);
        Check.sheet(x, 1, 2, 4, 5);
        Check.type(x, "wa");
        x.image();
        Check.type(x, ",h");
        Check.sheet(x, 0, 1, 3, 2);
        x.drop(1);
        x.sheet(2, 0, 0);
        x.restore();
        Check.due("the tape", x.type(' ', 1), 5);
        Check.due("sheet 1", x.drop(1), NULL);
        Check.due("sheet 2", x.drop(2), 0);
        Check.due("sheet 0", Twin.itemAt(x, 0, 1, 0) * 10 + Twin.itemAt(x, 0, 1, 1), 32);
        Check.due("how many", x.drop(0), 2);
        Check.due("as typed", x.school(), 2);
        x.restore();
        Check.due("the tape is empty still", x.type('p', 1), 1);
    }

    private static void imageIsApart() {
        Check.sentence("23 image", "is kept (what comes then does not change it)");
        TaughtHours x = six();
        Check.due("image", x.image(), 1);
        x.restore();
        x.teach(3, 5, 3);
        x.know(0, 0, 96);
        x.hears(0, 2, false);
        x.need(3, 1);
        Check.plan(x, "0>1a");
        x.seed(9);
        x.restore();
        Check.due("says", x.told(0, 3) * 100 + x.told(5, 6), 97);
        Check.due("hears", x.told(0, 2), 60);
        Check.due("needs", x.need(3, 0), 0);
        Check.due("plan", x.count(2) * 10 + x.count(3), 43);
        Check.due("draw", x.seed(9), 123456789);
        Check.due("done", x.count(1), 1);
    }

    private static void restoreNone() {
        Check.sentence("24 restore", "NONE: there is none.");
        Twin.refused("a new object", TaughtHours::new, TaughtHours::restore, NONE);
        Twin.refused("a school", EdgesMouthsTest::six, TaughtHours::restore, NONE);
        TaughtHours x = six();
        x.restore();
        Check.due("still none", x.restore(), NONE);
        x.image();
        Check.due("then one", x.restore(), 1);
    }

    private static void restoreOften() {
        Check.sentence("24 restore", "All is as it was then (as often as wanted)");
        TaughtHours x = Check.school("pa,p");
        x.image();
        for (int i = 0; i < 20; i++) {
            Check.due("teach", x.teach(0, 1, 0), 0);
            Check.due("done", x.count(1), 1);
            Check.due("restore", x.restore(), 1);
            Check.due("done", x.count(1), 0);
        }
    }

    private static void restoreFull() {
        Check.sentence("24 restore", "All is as it was then (who is not there then, and who comes)");
        TaughtHours x = Check.school("h");
        x.image();
        Check.type(x, "pabcd,wabcd,labcd,pabcd,pabcd,pabcd");
        x.school();
        for (int a = 0; a < 6; a++) for (int b = 0; b < 6; b++) x.hears(a, b, false);
        x.restore();
        Check.due("one", x.count(0), 1);
        Check.due("who was there since", x.told(1, 0), BAD);
        Check.due("hears nobody", x.told(0, 2), 0);
        Check.due("the next", x.child(3), 1);
        Check.due("knows nothing", x.told(1, 1), 0);
        Check.due("hears", x.told(0, 2) * 10 + x.told(1, 2), 21);
    }
}
