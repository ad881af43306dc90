import static java.lang.Integer.MAX_VALUE;
import static java.lang.Integer.MIN_VALUE;

/** Boundary cases of part 2, teaching: promises 12 to 18, a sentence a test. */
public final class EdgesTeachingTest {
    private static final int BAD = -1, NOT = -2, FULL = -3, NONE = -4;

    public static void main(String[] args) {
        mayIfTeacherKnows(); mayIfPupilDoesNot(); mayIfPupilKnowsAllNeeded(); mayIfPupilHears(); mayAlike(); mayWrong();
        teachSays(); teachWraps(); teachNot(); teachWrong();
        runNoPlan(); runWhole(); runFirstThatMayNot(); runChildTwice(); runNextHour(); runAgain(); runWraps(); runLongest();
        hoursSet(); hoursFull(); hoursFullAheadOfNone(); hoursNoneNeeded(); hoursNever(); hoursTheseAlone(); hoursFromNowOn();
        hoursFewest(); hoursMost();
        boundSet(); boundNothingLacks(); boundCutUp(); boundHalfCut(); boundOneAlone(); boundMost();
        sparedNobody(); sparedNoPlan(); sparedOthersAlone(); sparedTeacherAndPupil(); sparedLeftOut(); sparedInTheHour();
        sparedFromNowOn(); sparedEachChild(); sparedLongest(); sparedMoreThanBehindThePlan();
        orderWrong(); orderNoIth(); orderEmptySet(); orderFirst(); orderNone(); orderNeedsBesideTheSet();
        Check.end();
    }

    // ---- 12

    private static void mayIfTeacherKnows() {
        Check.sentence("12 may", "it MAY be, if the first knows it");
        for (int t = 0; t < 4; t++) {
            TaughtHours x = Check.school("p,p");
            Check.due("nobody", x.may(0, 1, t), 0);
            x.know(0, t, 96);
            Check.due("the first", x.may(0, 1, t), 1);
            for (int other = 0; other < 4; other++) if (other != t) Check.due("another thing", x.may(0, 1, other), 0);
        }
    }

    private static void mayIfPupilDoesNot() {
        Check.sentence("12 may", "and the second does not");
        TaughtHours x = Check.school("pa,p");
        x.know(1, 0, 0);
        Check.due("alike", x.may(0, 1, 0), 0);
        x.know(1, 0, 96);
        Check.due("otherwise", x.may(0, 1, 0), 0);
        x.know(1, 0, -1);
        Check.due("not any more", x.may(0, 1, 0), 1);
        x.know(0, 0, -1);
        Check.due("nor the first", x.may(0, 1, 0), 0);
    }

    private static void mayIfPupilKnowsAllNeeded() {
        Check.sentence("12 may", "knows all it NEEDS");
        for (int known = 0; known < 8; known++) {
            TaughtHours x = Check.school("pd,p");
            for (int t = 0; t < 3; t++) if ((known & 1 << t) != 0) x.know(1, t, t);
            for (int need = 0; need < 8; need++) {
                x.need(3, need);
                Check.due("needs " + need + " knows " + known, x.may(0, 1, 3), (need & known) == need ? 1 : 0);
            }
        }
    }

    private static void mayIfPupilHears() {
        Check.sentence("12 may", "and HEARS the first");
        TaughtHours x = Check.school("pa,p,p,p,p,pb");
        x.hears(0, 5, false);
        Check.due("the teacher need not", x.may(0, 5, 0), 1);
        x.hears(5, 0, false);
        Check.due("does not", x.may(0, 5, 0), 0);
        x.hears(0, 5, true);
        Check.due("the other way", x.may(5, 0, 1), 1);
        Check.due("does not still", x.may(0, 5, 0), 0);
        x.hears(5, 0, true);
        Check.due("does again", x.may(0, 5, 0), 1);
    }

    private static void mayAlike() {
        Check.sentence("12 may", "BAD: also one alike.");
        TaughtHours x = Check.school("pa,p,p");
        for (int c = 0; c < 3; c++) for (int t = 0; t < 4; t++) Check.due("alike", x.may(c, c, t), BAD);
    }

    private static void mayWrong() {
        Check.sentence("12 may", "BAD.");
        TaughtHours x = Check.school("pabcd,p,pabcd");
        for (int c : Check.outside(3)) {
            Check.due("teacher " + c, x.may(c, 1, 0), BAD);
            Check.due("pupil " + c, x.may(0, c, 0), BAD);
        }
        for (int t : Check.outside(4)) Check.due("thing " + t, x.may(0, 1, t), BAD);
        Check.due("the first", x.may(0, 1, 0), 1);
        Check.due("the last", x.may(2, 1, 3), 1);
    }

    // ---- 13

    private static void teachSays() {
        Check.sentence("13 teach", "A TEACHING alone: what the pupil SAYS.");
        TaughtHours x = Check.school("p,h,l,w,p");
        for (int c = 0; c < 4; c++) {
            x.know(c, c, 0);
            int[] want = {0, 1, 0, 95};
            Check.due("kind " + c, x.teach(c, 4, c), want[c]);
            Check.due("told", x.told(4, 3 + c), want[c]);
            Check.due("the teacher says as before", x.told(c, 3 + c), 0);
            Check.due("done", x.count(1), c + 1);
        }
    }

    private static void teachWraps() {
        Check.sentence("13 teach", "all as the rest by 97");
        int[][] wraps = {{0, 96, 96}, {1, 96, 0}, {1, 95, 96}, {2, 48, 96}, {2, 49, 1}, {2, 96, 95}, {3, 95, 0}, {3, 96, 96}, {3, 0, 95}};
        for (int[] w : wraps) {
            TaughtHours x = new TaughtHours();
            x.child(w[0]);
            x.child(0);
            x.know(0, 2, w[1]);
            Check.due("kind " + w[0] + " says " + w[1], x.teach(0, 1, 2), w[2]);
        }
    }

    private static void teachNot() {
        Check.sentence("13 teach", "NOT: it MAY not be.");
        TaughtHours x = Check.school("pa,p,pa");
        Check.due("the first does not know it", x.teach(1, 0, 1), NOT);
        Check.due("the second knows it", x.teach(0, 2, 0), NOT);
        x.need(0, 2);
        Check.due("it lacks what that needs", x.teach(0, 1, 0), NOT);
        x.need(0, 0);
        x.hears(1, 0, false);
        Check.due("does not hear", x.teach(0, 1, 0), NOT);
        Check.due("nothing is done", x.count(1) * 10 + x.count(4), 2);
    }

    private static void teachWrong() {
        Check.sentence("13 teach", "BAD.");
        TaughtHours x = Check.school("pabcd,p,pabcd");
        for (int c : Check.outside(3)) {
            Check.due("teacher " + c, x.teach(c, 1, 0), BAD);
            Check.due("pupil " + c, x.teach(0, c, 0), BAD);
        }
        for (int t : Check.outside(4)) Check.due("thing " + t, x.teach(0, 1, t), BAD);
        for (int c = 0; c < 3; c++) Check.due("a TEACHING is to another one", x.teach(c, c, 0), BAD);
        Check.due("nothing is done", x.count(1) * 10 + x.count(4), 8);
        Check.due("the first", x.teach(0, 1, 0), 0);
        Check.due("the last", x.teach(2, 1, 3), 0);
    }

    // ---- 14

    private static void runNoPlan() {
        Check.sentence("14 run", "The PLAN kept is run (there is none)");
        Check.due("new", new TaughtHours().run(), 0);
        Check.due("no plan told", Check.school("pa,p").run(), 0);
    }

    private static void runWhole() {
        Check.sentence("14 run", "how many TEACHINGS are done (all)");
        TaughtHours x = Check.school("pa,p,p,p,p,p");
        Check.plan(x, "0>1a;0>2a,1>3a;0>4a,1>5a");
        Check.due("all", x.run(), 5);
        Check.due("all know it", x.count(4), 6);
        Check.due("done", x.count(1), 5);
    }

    private static void runFirstThatMayNot() {
        Check.sentence("14 run", "the first that MAY not be ends it (it is not done)");
        String[] plans = {"1>0b;0>1a;0>2a", "0>1a;1>0b;0>2a", "0>1a;0>2a;1>0b", "0>1a;2>1b,0>2a"};
        int[] done = {0, 1, 2, 1};
        int[] known = {100, 110, 111, 110};
        for (int i = 0; i < plans.length; i++) {
            TaughtHours x = Check.school("pa,p,p");
            Check.plan(x, plans[i]);
            Check.due(plans[i], x.run(), done[i]);
            Check.due("known", x.told(0, 1) * 100 + x.told(1, 1) * 10 + x.told(2, 1), known[i]);
            Check.due("count", x.count(1), done[i]);
        }
    }

    private static void runChildTwice() {
        Check.sentence("14 run", "or has a child that is in one of its HOUR already, ends it");
        String[] plans = {"0>1a,0>2a", "0>1a,1>2b", "0>1a,2>0c", "0>1a,2>1c", "0>1a,3>2d,0>2b", "0>1a,3>2d,3>1d", "0>1a,0>1b", "0>1a,1>0b"};
        int[] done = {1, 1, 1, 1, 2, 2, 1, 1};
        for (int i = 0; i < plans.length; i++) {
            TaughtHours x = Check.school("pab,pb,pc,pd");
            x.know(1, 1, i == 6 ? -1 : 0);
            if (i == 7) x.know(0, 1, -1);
            Check.plan(x, plans[i]);
            Check.due(plans[i], x.run(), done[i]);
            Check.due("done", x.count(1), done[i]);
        }
    }

    private static void runNextHour() {
        Check.sentence("14 run", "each child in one of them at most (of an HOUR; in the next again)");
        TaughtHours x = Check.school("pab,pb,pc,pd");
        Check.plan(x, "0>1a;0>2a;1>2b;2>0c;0>3c,2>1c");
        Check.due("run", x.run(), 6);
        // what is learnt in an hour can be passed on in the next alone
        x = Check.school("pa,p,p");
        Check.plan(x, "0>1a,1>2a");
        Check.due("in the same", x.run(), 1);
        x = Check.school("pa,p,p");
        Check.plan(x, "0>1a;1>2a");
        Check.due("in the next", x.run(), 2);
    }

    private static void runAgain() {
        Check.sentence("14 run", "The PLAN kept is run (it stays kept, and begins anew)");
        TaughtHours x = Check.school("pa,p,p");
        Check.plan(x, "0>1a;1>2a");
        Check.due("first", x.run(), 2);
        Check.due("then it MAY not be", x.run(), 0);
        Check.due("kept", x.count(2) * 10 + x.count(3), 22);
        x.know(1, 0, -1);
        Check.due("its first only", x.run(), 1);
        x.know(1, 0, -1);
        x.know(2, 0, -1);
        Check.due("all of it", x.run(), 2);
        Check.due("done", x.count(1), 5);
    }

    private static void runWraps() {
        Check.sentence("14 run", "all as the rest by 97");
        TaughtHours x = Check.school("h,l,w,p");
        x.know(0, 0, 96);
        x.know(1, 1, 49);
        x.know(2, 2, 96);
        Check.plan(x, "0>3a;1>3b;2>3c");
        Check.due("run", x.run(), 3);
        Check.due("says", x.told(3, 3) * 10000 + x.told(3, 4) * 100 + x.told(3, 5), 196);
    }

    private static void runLongest() {
        Check.sentence("14 run", "24 together at most");
        TaughtHours x = Check.school("pabcd,p,p,p,p,p");
        StringBuilder text = new StringBuilder();
        for (int i = 0; i < 20; i++) text.append("0>").append(1 + i / 4).append((char) ('a' + i % 4)).append(';');
        Check.due("plan", Check.plan(x, text + "0>1a;0>2a;0>3a;0>4a"), 24);
        Check.due("run", x.run(), 20);
        x = Check.school("pabcd,habcd,labcd,wabcd,pabcd,pabcd");
        x.know(5, 3, -1);
        Check.plan(x, "0>5d;" + EdgesTextsTest.teachings(23, ','));
        Check.due("the first alone", x.run(), 1);
        // all that can be done: 20 of 24
        x = Check.school("pabcd,p,p,p,p,p");
        x.know(0, 0, 7);
        Check.plan(x, text.substring(0, text.length() - 1));
        Check.due("all 20", x.run(), 20);
        Check.due("the last one's", Check.sayings(x, 0), 70707070707L);
    }

    // ---- 15

    private static void hoursSet() {
        Check.sentence("15 hours", "BAD.");
        for (int set : Check.outside(16)) Check.due("set " + set, Check.school("pabcd").hours(set), BAD);
        TaughtHours x = Check.school("pabcd,p");
        Check.due("the empty set", x.hours(0), 0);
        Check.due("the full set", x.hours(15), 4);
    }

    private static void hoursFull() {
        Check.sentence("15 hours", "FULL: CHILDREN times THINGS of it are more than 12");
        StringBuilder text = new StringBuilder("pabcd");
        for (int n = 1; n <= 6; n++) {
            TaughtHours x = Check.school(text.toString());
            for (int set = 0; set < 16; set++) {
                boolean full = n * Integer.bitCount(set) > 12;
                Check.due(n + " children, set " + set, x.hours(set), full ? FULL : 0);
            }
            text.append(",habcd");
        }
    }

    private static void hoursFullAheadOfNone() {
        Check.sentence("15 hours", "FULL, of several the first that a call names (NONE behind it, BAD ahead of it)");
        Check.due("12 of nobody's", Check.school("p,p,p").hours(15), NONE);
        Check.due("12 of nobody's", Check.school("p,p,p,p").hours(14), NONE);
        Check.due("12 of nobody's", Check.school("p,p,p,p,p,p").hours(10), NONE);
        Check.due("15 of nobody's", Check.school("p,p,p,p,p").hours(14), FULL);
        Check.due("16 of nobody's", Check.school("p,p,p,p").hours(15), FULL);
        Check.due("not a set", Check.school("p,p,p,p,p,p").hours(31), BAD);
    }

    private static void hoursNoneNeeded() {
        Check.sentence("15 hours", "the fewest HOURS by which all CHILDREN know all THINGS of a set (they do already)");
        Check.due("one alone", Check.school("pc").hours(4), 0);
        Check.due("six", Check.school("pc,hc,lc,wc,pc,hc").hours(4), 0);
        Check.due("one lacks it", Check.school("pc,hc,lc,wc,pc,h").hours(4), 1);
    }

    private static void hoursNever() {
        Check.sentence("15 hours", "never, if it can't be; NONE: never.");
        Check.due("one alone", Check.school("pa").hours(3), NONE);
        Check.due("nobody knows it", Check.school("pa,pa").hours(2), NONE);
        TaughtHours x = Check.school("pa,p,pa");
        x.hears(1, 0, false);
        Check.due("by another", x.hours(1), 1);
        x.hears(1, 2, false);
        Check.due("hears none who knows", x.hours(1), NONE);
        x = Check.school("pab,p");
        x.need(0, 2);
        x.need(1, 1);
        Check.due("one needs the other", x.hours(3), NONE);
        x = Check.school("pab,pa,p");
        x.need(0, 2);
        Check.due("who knows it already does not need", x.hours(3), 3);
    }

    private static void hoursTheseAlone() {
        Check.sentence("15 hours", "TEACHINGS of these alone being done");
        TaughtHours x = Check.school("pab,p");
        x.need(0, 2);
        Check.due("what it needs is not of the set", x.hours(1), NONE);
        Check.due("with it", x.hours(3), 2);
        x.know(1, 1, 50);
        Check.due("it is known", x.hours(1), 1);
        Check.due("it is known, and of the set", x.hours(3), 1);
    }

    private static void hoursFromNowOn() {
        Check.sentence("15 hours", "from now on");
        TaughtHours x = Check.school("pa,p,p,p");
        Check.due("first", x.hours(1), 2);
        x.teach(0, 1, 0);
        Check.due("then", x.hours(1), 1);
        x.teach(0, 2, 0);
        Check.due("then", x.hours(1), 1);
        x.teach(0, 3, 0);
        Check.due("then", x.hours(1), 0);
        Check.due("nothing but the three was done", x.count(1), 3);
        // what was found before does not matter: first each hears the one ahead of it alone
        x = Check.school("pa,p,p,p,p,p");
        for (int a = 0; a < 6; a++) for (int b = 0; b < 6; b++) x.hears(a, b, b == a - 1);
        Check.due("a chain", x.hours(1), 5);
        for (int a = 0; a < 6; a++) for (int b = 0; b < 6; b++) x.hears(a, b, true);
        Check.due("all hear all", x.hours(1), 3);
        for (int a = 0; a < 6; a++) for (int b = 0; b < 6; b++) x.hears(a, b, false);
        Check.due("nobody hears any", x.hours(1), NONE);
        x = Check.school("pab,p");
        Check.due("nothing is needed", x.hours(1), 1);
        x.need(0, 2);
        Check.due("it is needed then", x.hours(1), NONE);
        x.need(0, 0);
        Check.due("nothing is needed again", x.hours(1), 1);
    }

    private static void hoursFewest() {
        Check.sentence("15 hours", "the fewest HOURS (AN HOUR: each child in one of them at most)");
        String[] schools = {"pa,p", "pa,p,p", "pa,p,p,p", "pa,p,p,p,p", "pa,p,p,p,p,p"};
        int[] hours = {1, 2, 2, 3, 3};
        for (int i = 0; i < schools.length; i++) Check.due(schools[i], Check.school(schools[i]).hours(1), hours[i]);
        Check.due("two that swap", Check.school("pa,pb").hours(3), 2);
        // the last pair of children, and a pupil of a lower number than its teacher
        Check.due("last to first", Check.school("p,p,p,p,p,pa").hours(1), 3);
        Check.due("three at once", Check.school("pa,p,pa,p,pa,p").hours(1), 1);
        Check.due("three at once", Check.school("p,pa,p,pa,p,pa").hours(1), 1);
        Check.due("one too few teach", Check.school("pa,p,pa,p,p,p").hours(1), 2);
        Check.due("three at once, twice", Check.school("pab,pab,pab,p,p,p").hours(3), 2);
        Check.due("two at once, three times", Check.school("pabc,pabc,p,p").hours(7), 3);
        // a chain: each hears the one ahead of it alone
        TaughtHours x = Check.school("pa,p,p,p,p,p");
        for (int a = 0; a < 6; a++) for (int b = 0; b < 6; b++) x.hears(a, b, b == a - 1);
        Check.due("a chain", x.hours(1), 5);
    }

    private static void hoursMost() {
        Check.sentence("15 hours", "the fewest HOURS (as many as there can be)");
        // all hear child 0 alone, so a teaching an hour is all that can be
        TaughtHours x = Check.school("pab,p,p,p,p,p");
        for (int a = 1; a < 6; a++) for (int b = 1; b < 6; b++) x.hears(a, b, false);
        Check.due("six, two things", x.hours(3), 10);
        x = Check.school("pabc,p,p,p");
        for (int a = 1; a < 4; a++) for (int b = 1; b < 4; b++) x.hears(a, b, false);
        Check.due("four, three things", x.hours(7), 9);
        x = Check.school("pabcd,p,p");
        Check.due("three, four things", x.hours(15), 8);
        for (int a = 1; a < 3; a++) for (int b = 1; b < 3; b++) x.hears(a, b, false);
        Check.due("three, four things", x.hours(15), 8);
    }

    // ---- 16

    private static void boundSet() {
        Check.sentence("16 bound", "BAD.");
        for (int set : Check.outside(16)) {
            Check.due("set " + set, Check.school("p,p").bound(set), BAD);
            Check.due("nobody, set " + set, new TaughtHours().bound(set), BAD);
        }
        Check.due("the empty set", Check.school("p,p").bound(0), 0);
        Check.due("the full set", Check.school("p,p").bound(15), 8);
    }

    private static void boundNothingLacks() {
        Check.sentence("16 bound", "of these THINGS how many are lacking (none)");
        Check.due("nobody", new TaughtHours().bound(15), 0);
        Check.due("one", Check.school("pabcd").bound(15), 0);
        Check.due("six", Check.school("pad,pad,pad,pad,pad,pad").bound(9), 0);
        Check.due("others lack", Check.school("pad,pad").bound(6), 4);
    }

    private static void boundCutUp() {
        Check.sentence("16 bound", "by half as many as there are CHILDREN, cut up");
        // six children: 24 lacking and ever one less
        TaughtHours x = Check.school("p,p,p,p,p,p");
        for (int known = 0; known <= 24; known++) {
            int lacking = 24 - known;
            int want = lacking % 3 == 0 ? lacking / 3 : lacking / 3 + 1;
            Check.due("lacking " + lacking, x.bound(15), want);
            if (known < 24) x.know(known / 4, known % 4, 0);
        }
    }

    private static void boundHalfCut() {
        Check.sentence("16 bound", "half as many as there are CHILDREN (cut)");
        String[] schools = {"p,p", "p,p,p", "p,p,p,p", "p,p,p,p,p", "p,p,p,p,p,p"};
        int[] bound = {2, 3, 2, 3, 2};
        for (int i = 0; i < schools.length; i++) Check.due(schools[i], Check.school(schools[i]).bound(8), bound[i]);
    }

    private static void boundOneAlone() {
        Check.sentence("16 bound", "with one child alone that lacks one: never; NONE: never.");
        TaughtHours x = Check.school("pacd");
        Check.due("lacks one", x.bound(2), NONE);
        Check.due("lacks one of all", x.bound(15), NONE);
        Check.due("lacks none of these", x.bound(13), 0);
        Check.due("the empty set", x.bound(0), 0);
        x.child(0);
        Check.due("not alone any more", x.bound(2), 2);
    }

    private static void boundMost() {
        Check.sentence("16 bound", "BOUND for a set (there is no FULL)");
        Check.due("24", Check.school("p,p,p,p,p,p").bound(15), 8);
        Check.due("two", Check.school("p,p").bound(15), 8);
        Check.due("three: 12 by 1", Check.school("p,p,p").bound(15), 12);
        Check.due("though it never comes so", Check.school("p,p,p").bound(1), 3);
    }

    // ---- 17

    private static void sparedNobody() {
        Check.sentence("17 spared", "SPARED, as a set. (nobody)");
        Check.due("nobody", new TaughtHours().spared(), 0);
        Check.due("one alone", Check.school("p").spared(), 1);
    }

    private static void sparedNoPlan() {
        Check.sentence("17 spared", "SPARED (there is no PLAN)");
        Check.due("two", Check.school("pa,p").spared(), 3);
        Check.due("six", Check.school("pa,p,p,p,p,p").spared(), 63);
    }

    private static void sparedOthersAlone() {
        Check.sentence("17 spared", "if all others then know all THINGS that they know behind the whole PLAN");
        TaughtHours x = Check.school("pa,p");
        Check.plan(x, "0>1a");
        Check.due("the pupil misses it itself", x.spared(), 2);
        x = Check.school("p,pa");
        Check.plan(x, "1>0a");
        Check.due("the pupil misses it itself", x.spared(), 1);
        x = Check.school("pa,p,p,p,p,p");
        Check.plan(x, "0>5a;5>4a;4>3a;3>2a;2>1a");
        Check.due("a chain", x.spared(), 2);
        Check.plan(x, "0>1a;1>2a;2>3a;3>4a;4>5a");
        Check.due("a chain", x.spared(), 32);
    }

    private static void sparedTeacherAndPupil() {
        Check.sentence("17 spared", "it goes likewise without all TEACHINGS of one child");
        TaughtHours x = Check.school("pa,p,pb,p");
        Check.plan(x, "0>1a,2>3b");
        Check.due("two pairs", x.spared(), 10);
        Check.plan(x, "0>1a;2>1b;1>3a;1>3b");
        Check.due("all by 1", x.spared(), 8);
        // without 1 as a pupil too: 0 is free for 3 in that hour
        Check.plan(x, "0>1a,0>3a;0>3a");
        Check.due("its teacher is free", x.spared(), 14);
    }

    private static void sparedLeftOut() {
        Check.sentence("17 spared", "what MAY not be as it comes being left out");
        TaughtHours x = Check.school("pa,p,p");
        Check.plan(x, "1>2a;0>1b;0>1a;0>1a;1>2a");
        Check.due("the run ends at once", x.run(), 0);
        Check.due("yet this goes on", x.spared(), 4);
        // a left out one does not keep its children from the hour
        x = Check.school("pa,p,p,p");
        Check.plan(x, "0>1b,0>1a;2>3a,1>2a");
        Check.due("0 and 1 are free still", x.spared(), 12);
    }

    private static void sparedInTheHour() {
        Check.sentence("17 spared", "or has a child that is in one of the HOUR already");
        TaughtHours x = Check.school("pa,p,p");
        Check.plan(x, "0>1a,0>2a");
        Check.due("2 gets nothing, but for 1", x.spared(), 6);
        Check.plan(x, "0>1a,1>2a");
        Check.due("2 gets nothing", x.spared(), 6);
        // 1 away: 2 is taught in the hour, and can't teach 3 then
        x = Check.school("pa,p,pb,p");
        Check.plan(x, "0>1a,0>2a,2>3b");
        Check.due("without 1 3 misses b", x.spared(), 8);
        Check.plan(x, "0>1a,0>2a;2>3b");
        Check.due("in the next hour not", x.spared(), 10);
    }

    private static void sparedFromNowOn() {
        Check.sentence("17 spared", "THE PLAN goes, from now on");
        TaughtHours x = Check.school("pa,p,p");
        Check.plan(x, "0>1a;1>2a");
        Check.due("first", x.spared(), 4);
        x.know(1, 0, 9);
        Check.due("1 knows it", x.spared(), 5);
        x.know(2, 0, 9);
        Check.due("all know it", x.spared(), 7);
        Check.due("nothing is done", x.count(1) * 10 + x.count(4), 3);
    }

    private static void sparedEachChild() {
        Check.sentence("17 spared", "SPARED is that one (each child, whoever it is who misses something)");
        for (int teacher = 0; teacher < 6; teacher++) {
            for (int pupil = 0; pupil < 6; pupil++) {
                if (teacher == pupil) continue;
                TaughtHours x = Check.school("p,p,p,p,p,p");
                x.know(teacher, 3, 0);
                Check.plan(x, teacher + ">" + pupil + "d");
                Check.due(teacher + " to " + pupil, x.spared(), 63 & ~(1 << teacher));
            }
        }
    }

    private static void sparedLongest() {
        Check.sentence("17 spared", "THE PLAN goes (24 TEACHINGS, and fewer behind a longer one)");
        TaughtHours x = Check.school("pa,p,p");
        Check.plan(x, EdgesTextsTest.teachings(23, ';') + ";1>2a");
        Check.due("24", x.spared(), 4);
        Check.plan(x, EdgesTextsTest.teachings(23, ';'));
        Check.due("23", x.spared(), 6);
        Check.plan(x, "0>1a");
        Check.due("one", x.spared(), 6);
        Check.plan(x, "0>2b;0>2a");
        Check.plan(x, "0>1b");
        Check.due("none that may be", x.spared(), 7);
    }

    private static void sparedMoreThanBehindThePlan() {
        Check.sentence("17 spared", "know all THINGS that they know behind the whole PLAN (more does no harm)");
        TaughtHours x = Check.school("pab,p,p");
        Check.plan(x, "0>1a,0>2b");
        Check.due("without 1 the other gets b", x.spared(), 6);
    }

    // ---- 18

    private static void orderWrong() {
        Check.sentence("18 order", "the i-th THING (0 .. 3) of a set. BAD");
        TaughtHours x = new TaughtHours();
        for (int set : Check.outside(16)) for (int i = 0; i < 4; i++) Check.due("set " + set, x.order(set, i), BAD);
        for (int i : new int[] {-1, 4, MIN_VALUE, MAX_VALUE}) {
            for (int set : new int[] {0, 1, 15}) Check.due("i " + i, x.order(set, i), BAD);
        }
        Check.due("the first", x.order(15, 0), 0);
        Check.due("the last", x.order(15, 3), 3);
    }

    private static void orderNoIth() {
        Check.sentence("18 order", "NONE: no i-th.");
        TaughtHours x = new TaughtHours();
        for (int set = 0; set < 16; set++) {
            int many = Integer.bitCount(set);
            for (int i = 0; i < 4; i++) Check.holds("set " + set + " at " + i, x.order(set, i) >= 0 == i < many);
            if (many < 4) Check.due("set " + set + " behind it", x.order(set, many), NONE);
        }
    }

    private static void orderEmptySet() {
        Check.sentence("18 order", "ORDER (of the empty set)");
        for (int i = 0; i < 4; i++) Check.due("at " + i, new TaughtHours().order(0, i), NONE);
    }

    private static void row(TaughtHours x, int set, int... want) {
        for (int i = 0; i < want.length; i++) Check.due("of " + set + " at " + i, x.order(set, i), want[i]);
    }

    private static void orderFirst() {
        Check.sentence("18 order", "of rows in which each NEEDS none that comes behind it the first");
        TaughtHours x = new TaughtHours();
        row(x, 15, 0, 1, 2, 3);
        x.need(0, 14);
        row(x, 15, 1, 2, 3, 0);
        x.need(1, 12);
        row(x, 15, 2, 3, 1, 0);
        x.need(2, 8);
        row(x, 15, 3, 2, 1, 0);
        x.need(0, 0);
        row(x, 15, 0, 3, 2, 1);
        x.need(0, 8);
        x.need(1, 0);
        x.need(2, 0);
        row(x, 15, 1, 2, 3, 0);
        x.need(0, 4);
        row(x, 15, 1, 2, 0, 3);
    }

    private static void orderNone() {
        Check.sentence("18 order", "there may be none; NONE: there is none");
        TaughtHours x = new TaughtHours();
        x.need(2, 8);
        x.need(3, 4);
        row(x, 15, NONE, NONE, NONE, NONE);
        row(x, 13, NONE, NONE, NONE, NONE);
        row(x, 12, NONE, NONE, NONE, NONE);
        row(x, 7, 0, 1, 2, NONE);
        x.need(3, 1);
        x.need(0, 4);
        row(x, 15, NONE, NONE, NONE, NONE);
        row(x, 14, 1, 3, 2, NONE);
        x.need(0, 2);
        x.need(1, 4);
        row(x, 15, NONE, NONE, NONE, NONE);
        x.need(2, 0);
        row(x, 15, 2, 1, 0, 3);
    }

    private static void orderNeedsBesideTheSet() {
        Check.sentence("18 order", "NEEDS none that comes behind it (what is not of the set does not come)");
        TaughtHours x = new TaughtHours();
        for (int t = 0; t < 4; t++) x.need(t, 15 & ~(1 << t));
        for (int t = 0; t < 4; t++) row(x, 1 << t, t, NONE, NONE, NONE);
        row(x, 3, NONE, NONE, NONE, NONE);
        x.need(1, 12);
        row(x, 3, 1, 0, NONE, NONE);
    }
}
