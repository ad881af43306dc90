import static java.lang.Integer.MAX_VALUE;
import static java.lang.Integer.MIN_VALUE;

/** Boundary cases of part 1, children and things: promises 1 to 7 and 11, a sentence a test. */
public final class EdgesChildrenTest {
    private static final int BAD = -1, FULL = -3, NONE = -4, NULL = -11;

    public static void main(String[] args) {
        nobody(); nothingIsNeededAtFirst(); noPlanNoImageAtFirst(); sheetsAreNothingAtFirst();
        nothingIsKnownAtFirst(); allHearAllAtFirst(); ofTwoOneAlone();
        numbersAsTheyCome(); kinds(); sixAreFull(); fullThenRoom();
        sayings(); notKnown(); whatItWas(); knowWrong();
        needSets(); needItself(); needOneAnother(); needWrong();
        hearsWhether(); hearsAlike(); hearsWrong();
        toldLast(); toldUnknown(); toldWrong();
        passesPlain(); passesHasty(); passesLoud(); passesWrongKind(); passesEnds();
        countWhat(); countEmpty(); countMost(); countAsTheyAre(); countDone(); countDoneAtMost();
        Check.end();
    }

    // ---- 1

    private static void nobody() {
        Check.sentence("1 new", "Nobody.");
        TaughtHours x = new TaughtHours();
        Check.due("count", x.count(0), 0);
        Check.due("know", x.know(0, 0, 0), BAD);
        Check.due("hears", x.hears(0, 1, true), BAD);
        for (int what = 0; what < 7; what++) Check.due("told " + what, x.told(0, what), BAD);
        Check.due("passes", x.passes(0, 0), BAD);
        Check.due("may", x.may(0, 1, 0), BAD);
        Check.due("teach", x.teach(0, 1, 0), BAD);
        Check.due("from", x.from(0, 0), BAD);
        Check.due("plan", Check.plan(x, "0>1a"), -20);
        for (int set = 0; set < 16; set++) {
            Check.due("hours of " + set, x.hours(set), 0);
            Check.due("bound of " + set, x.bound(set), 0);
        }
        Check.due("spared", x.spared(), 0);
        for (int t = 0; t < 4; t++) Check.due("ways", x.mouths(t, 0) * 100 + x.mouths(t, 1), 0);
        Check.due("lessons", x.lessons(60), 0);
        Check.due("sheet", x.sheet(0, 0, 0), 0);
        Check.due("film", x.film(0, 0, 0, 0), 0);
    }

    private static void nothingIsNeededAtFirst() {
        Check.sentence("1 new", "THINGS 0 .. 3 NEED a set of other THINGS (none at first)");
        TaughtHours x = new TaughtHours();
        for (int t = 0; t < 4; t++) Check.due("need " + t, x.need(t, 0), 0);
    }

    private static void noPlanNoImageAtFirst() {
        Check.sentence("1 new", "Nobody. (no PLAN, no IMAGE, THE TAPE empty, nothing done)");
        TaughtHours x = new TaughtHours();
        Check.due("restore", x.restore(), NONE);
        Check.due("run", x.run(), 0);
        for (int what = 0; what < 6; what++) Check.due("count " + what, x.count(what), 0);
        Check.due("type", x.type('p', 1), 1);
    }

    private static void sheetsAreNothingAtFirst() {
        Check.sentence("1 new", "sheets 0 .. 3: nothing (at first)");
        for (int s = 0; s < 4; s++) {
            TaughtHours x = new TaughtHours();
            Check.due("drop " + s, x.drop(s), NULL);
            for (int lane = 0; lane < 3; lane++) Check.due("item", x.item(s, lane, 0, 0), NULL);
        }
    }

    private static void nothingIsKnownAtFirst() {
        Check.sentence("2 child", "know THINGS or not (none at first)");
        TaughtHours x = Check.school("pabcd,habcd");
        x.child(0);
        Check.due("set", x.told(2, 1), 0);
        for (int t = 0; t < 4; t++) Check.due("says " + t, x.told(2, 3 + t), 97);
        // where another one sat before it
        x = Check.school("pabcd,habcd");
        Check.type(x, "w");
        x.school();
        Check.due("child", x.child(2), 1);
        Check.due("set", x.told(1, 1), 0);
    }

    private static void allHearAllAtFirst() {
        Check.sentence("2 child", "HEAR others (all at first)");
        TaughtHours x = new TaughtHours();
        for (int n = 1; n <= 6; n++) {
            x.child(0);
            for (int c = 0; c < n; c++) Check.due(n + " there, " + c, x.told(c, 2), (1 << n) - 1 & ~(1 << c));
        }
        x = Check.school("p,p,p");
        x.hears(0, 1, false);
        x.hears(0, 2, false);
        x.child(0);
        Check.due("who heard nobody hears the new one alone", x.told(0, 2), 8);
        Check.due("the new one hears all", x.told(3, 2), 7);
    }

    private static void ofTwoOneAlone() {
        Check.sentence("5 hears", "of two it may be one alone");
        TaughtHours x = Check.school("pa,pb");
        x.hears(0, 1, false);
        Check.due("0", x.told(0, 2), 0);
        Check.due("1", x.told(1, 2), 1);
        Check.due("1 to 0", x.may(1, 0, 1), 0);
        Check.due("0 to 1", x.may(0, 1, 0), 1);
    }

    // ---- 2

    private static void numbersAsTheyCome() {
        Check.sentence("2 child", "CHILDREN 0 .. 5, as they come; A child: its number.");
        TaughtHours x = new TaughtHours();
        for (int c = 0; c < 6; c++) Check.due("child", x.child(3 - c % 4), c);
        for (int c = 0; c < 6; c++) Check.due("kind of " + c, x.told(c, 0), 3 - c % 4);
        x = Check.school("p,p,p");
        Check.due("behind a school of three", x.child(1), 3);
    }

    private static void kinds() {
        Check.sentence("2 child", "BAD (KINDS 0 .. 3)");
        for (int kind : new int[] {0, 3}) Check.due("kind " + kind, new TaughtHours().child(kind), 0);
        for (int kind : new int[] {-1, 4, MIN_VALUE, MAX_VALUE}) {
            TaughtHours x = new TaughtHours();
            Check.due("kind " + kind, x.child(kind), BAD);
            Check.due("nobody came", x.count(0), 0);
        }
    }

    private static void sixAreFull() {
        Check.sentence("2 child", "FULL: 6.");
        TaughtHours x = Check.school("p,p,p,p,p");
        Check.due("the sixth", x.child(0), 5);
        Check.due("the seventh", x.child(0), FULL);
        Check.due("still six", x.count(0), 6);
        Check.due("by a text", Check.school("p,p,p,p,p,p").child(3), FULL);
    }

    private static void fullThenRoom() {
        Check.sentence("2 child", "FULL: 6. (and where there are fewer again, not)");
        TaughtHours x = Check.school("p,p,p,p,p");
        x.image();
        x.child(0);
        Check.due("full", x.child(0), FULL);
        x.restore();
        Check.due("one goes in", x.child(2), 5);
        Check.type(x, "p");
        x.school();
        Check.due("five go in", x.child(2), 1);
    }

    // ---- 3

    private static void sayings() {
        Check.sentence("3 know", "A child SAYS a THING so (0 .. 96)");
        for (int says : new int[] {0, 1, 95, 96}) {
            TaughtHours x = Check.school("p,p,p");
            Check.due("says " + says, x.know(2, 3, says), 97);
            Check.due("told", x.told(2, 6), says);
            Check.due("set", x.told(2, 1), 8);
        }
        for (int says : new int[] {-2, 97, 98, MIN_VALUE, MAX_VALUE}) {
            TaughtHours x = Check.school("p,p,p");
            Check.due("says " + says, x.know(2, 3, says), BAD);
            Check.due("told", x.told(2, 6), 97);
        }
    }

    private static void notKnown() {
        Check.sentence("3 know", "or does not know it (-1)");
        TaughtHours x = Check.school("pabcd,p");
        Check.due("known before", x.know(0, 0, -1), 0);
        Check.due("set", x.told(0, 1), 14);
        Check.due("says", x.told(0, 3), 97);
        Check.due("known by none", x.know(0, 0, -1), 97);
    }

    private static void whatItWas() {
        Check.sentence("3 know", "what it was (97: it did not know it)");
        TaughtHours x = Check.school("p,p");
        Check.due("it did not", x.know(1, 0, 0), 97);
        Check.due("0 is known", x.know(1, 0, 96), 0);
        Check.due("96", x.know(1, 0, 96), 96);
        Check.due("96", x.know(1, 0, -1), 96);
        Check.due("it did not", x.know(1, 0, -1), 97);
        Check.due("the other one never did", x.know(0, 0, -1), 97);
    }

    private static void knowWrong() {
        Check.sentence("3 know", "BAD (a child, a THING)");
        TaughtHours x = Check.school("p,p,p");
        for (int c : Check.outside(3)) Check.due("child " + c, x.know(c, 0, 5), BAD);
        for (int t : Check.outside(4)) Check.due("thing " + t, x.know(0, t, 5), BAD);
        Check.due("nothing is known", x.count(4), 0);
        Check.due("the first child and thing", x.know(0, 0, 5), 97);
        Check.due("the last child and thing", x.know(2, 3, 5), 97);
    }

    // ---- 4

    private static void needSets() {
        Check.sentence("4 need", "What a THING NEEDS becomes a set: what it was.");
        TaughtHours x = new TaughtHours();
        for (int t = 0; t < 4; t++) {
            Check.due("all others", x.need(t, 15 & ~(1 << t)), 0);
            Check.due("none", x.need(t, 0), 15 & ~(1 << t));
            Check.due("none still", x.need(t, 0), 0);
        }
    }

    private static void needItself() {
        Check.sentence("4 need", "BAD: also itself.");
        TaughtHours x = new TaughtHours();
        for (int t = 0; t < 4; t++) {
            for (int set = 0; set < 16; set++) {
                if ((set & 1 << t) != 0) Check.due(t + " needs " + set, x.need(t, set), BAD);
            }
            Check.due("as before", x.need(t, 0), 0);
        }
    }

    private static void needOneAnother() {
        Check.sentence("4 need", "NEED a set of other THINGS (two one another too)");
        TaughtHours x = new TaughtHours();
        Check.due("first", x.need(0, 14), 0);
        Check.due("second", x.need(1, 13), 0);
        Check.due("third", x.need(2, 11), 0);
        Check.due("fourth", x.need(3, 7), 0);
    }

    private static void needWrong() {
        Check.sentence("4 need", "BAD (a THING, a set)");
        TaughtHours x = new TaughtHours();
        x.need(0, 14);
        for (int t : Check.outside(4)) Check.due("thing " + t, x.need(t, 0), BAD);
        for (int set : new int[] {-1, -2, 16, 18, 32, MIN_VALUE, MAX_VALUE, MAX_VALUE - 1}) Check.due("set " + set, x.need(0, set), BAD);
        Check.due("as before", x.need(0, 14), 14);
    }

    // ---- 5

    private static void hearsWhether() {
        Check.sentence("5 hears", "or not any more: whether it did (1, 0)");
        TaughtHours x = Check.school("p,p,p,p,p,p");
        Check.due("did, and does", x.hears(0, 5, true), 1);
        Check.due("did, and not any more", x.hears(0, 5, false), 1);
        Check.due("did not, and does not", x.hears(0, 5, false), 0);
        Check.due("the others it hears", x.told(0, 2), 30);
        Check.due("did not, and does", x.hears(0, 5, true), 0);
        Check.due("did", x.hears(0, 5, true), 1);
        Check.due("all", x.told(0, 2), 62);
    }

    private static void hearsAlike() {
        Check.sentence("5 hears", "BAD: also one alike.");
        TaughtHours x = Check.school("p,p,p");
        for (int c = 0; c < 3; c++) {
            Check.due("hears itself", x.hears(c, c, true), BAD);
            Check.due("or not", x.hears(c, c, false), BAD);
            Check.due("as before", x.told(c, 2), 7 & ~(1 << c));
        }
    }

    private static void hearsWrong() {
        Check.sentence("5 hears", "BAD (a child)");
        TaughtHours x = Check.school("p,p,p");
        for (int c : Check.outside(3)) {
            Check.due("first " + c, x.hears(c, 0, false), BAD);
            Check.due("second " + c, x.hears(0, c, false), BAD);
            Check.due("both " + c, x.hears(c, c, false), BAD);
        }
        for (int c = 0; c < 3; c++) Check.due("as before", x.told(c, 2), 7 & ~(1 << c));
        Check.due("the last one", x.hears(2, 0, false), 1);
        Check.due("the last one", x.hears(0, 2, false), 1);
    }

    // ---- 6

    private static void toldLast() {
        Check.sentence("6 told", "Of a child: 0 KIND, 1 THINGS it knows, 2 whom it HEARS (sets), 3 and THING");
        TaughtHours x = Check.school("p,h,l,w,p,wabcd");
        x.know(5, 0, 96);
        x.know(5, 3, 1);
        int[] last = {3, 15, 31, 96, 0, 0, 1};
        int[] first = {0, 0, 62, 97, 97, 97, 97};
        for (int what = 0; what < 7; what++) {
            Check.due("last " + what, x.told(5, what), last[what]);
            Check.due("first " + what, x.told(0, what), first[what]);
        }
    }

    private static void toldUnknown() {
        Check.sentence("6 told", "how it SAYS that (97: it does not know it)");
        TaughtHours x = Check.school("pac");
        int[] want = {0, 97, 0, 97};
        for (int t = 0; t < 4; t++) Check.due("thing " + t, x.told(0, 3 + t), want[t]);
    }

    private static void toldWrong() {
        Check.sentence("6 told", "BAD.");
        TaughtHours x = Check.school("pabcd,pabcd,pabcd");
        for (int c : Check.outside(3)) {
            for (int what = 0; what < 7; what++) Check.due("child " + c, x.told(c, what), BAD);
        }
        for (int what : new int[] {-1, 7, MIN_VALUE, MAX_VALUE}) Check.due("what " + what, x.told(2, what), BAD);
    }

    // ---- 7

    private static void passesPlain() {
        Check.sentence("7 passes", "0 PLAIN: v");
        TaughtHours x = Check.school("p");
        for (int v = 0; v < 97; v++) Check.due("of " + v, x.passes(0, v), v);
    }

    private static void passesHasty() {
        Check.sentence("7 passes", "1 HASTY: 1 more (as the rest by 97)");
        TaughtHours x = Check.school("h");
        for (int v = 0; v < 96; v++) Check.due("of " + v, x.passes(0, v), v + 1);
        Check.due("of 96", x.passes(0, 96), 0);
    }

    private static void passesLoud() {
        Check.sentence("7 passes", "2 LOUD: twice v (as the rest by 97)");
        TaughtHours x = Check.school("l");
        for (int v = 0; v <= 48; v++) Check.due("of " + v, x.passes(0, v), v + v);
        for (int v = 49; v <= 96; v++) Check.due("of " + v, x.passes(0, v), v + v - 97);
    }

    private static void passesWrongKind() {
        Check.sentence("7 passes", "3 WRONG: 96 less what a HASTY one's pupil would say");
        TaughtHours x = Check.school("w");
        for (int v = 0; v <= 95; v++) Check.due("of " + v, x.passes(0, v), 95 - v);
        Check.due("of 96", x.passes(0, 96), 96);
    }

    private static void passesEnds() {
        Check.sentence("7 passes", "BAD.");
        TaughtHours x = Check.school("p,h,w");
        for (int v : new int[] {-1, 97, 98, MIN_VALUE, MAX_VALUE}) {
            for (int c = 0; c < 3; c++) Check.due("says " + v, x.passes(c, v), BAD);
        }
        for (int c : Check.outside(3)) Check.due("child " + c, x.passes(c, 0), BAD);
    }

    // ---- 11

    private static void countWhat() {
        Check.sentence("11 count", "BAD.");
        TaughtHours x = Check.school("pa,p");
        for (int what : new int[] {-1, 6, 7, MIN_VALUE, MAX_VALUE}) Check.due("what " + what, x.count(what), BAD);
        Check.due("the first", x.count(0), 2);
        x.know(0, 0, 1);
        Check.due("the last", x.count(5), 1);
    }

    private static void countEmpty() {
        Check.sentence("11 count", "How many (none)");
        TaughtHours x = Check.school("p");
        int[] want = {1, 0, 0, 0, 0, 0};
        for (int what = 0; what < 6; what++) Check.due("what " + what, x.count(what), want[what]);
    }

    private static void countMost() {
        Check.sentence("11 count", "How many (as many as there can be)");
        TaughtHours x = Check.school("pabcd,habcd,labcd,wabcd,pabcd,habcd");
        Check.due("24 teachings", Check.plan(x, EdgesTextsTest.teachings(24, ';')), 24);
        for (int c = 0; c < 6; c++) for (int t = 0; t < 4; t++) x.know(c, t, 1 + 19 * t + c);
        int[] want = {6, 0, 24, 24, 24, 24};
        for (int what = 0; what < 6; what++) Check.due("what " + what, x.count(what), want[what]);
        Check.plan(x, EdgesTextsTest.teachings(24, ','));
        Check.due("in one hour", x.count(2) * 100 + x.count(3), 2401);
    }

    private static void countAsTheyAre() {
        Check.sentence("11 count", "5 of these not as they are (0 is how it is)");
        for (int c = 0; c < 6; c++) {
            for (int t = 0; t < 4; t++) {
                TaughtHours x = Check.school("p,p,p,p,p,p");
                x.know(c, t, 0);
                Check.due("0", x.count(4) * 10 + x.count(5), 10);
                x.know(c, t, 1);
                Check.due("1", x.count(4) * 10 + x.count(5), 11);
                x.know(c, t, 96);
                Check.due("96", x.count(4) * 10 + x.count(5), 11);
                x.know(c, t, -1);
                Check.due("not known", x.count(4) * 10 + x.count(5), 0);
            }
        }
        // who is not there any more does not count
        TaughtHours x = Check.school("p,p");
        x.know(1, 0, 5);
        Check.type(x, "p");
        x.school();
        Check.due("gone", x.count(4) * 10 + x.count(5), 0);
    }

    private static void countDone() {
        Check.sentence("11 count", "1 TEACHINGS done since the beginning");
        TaughtHours x = Check.school("pabcd,p,p");
        x.know(1, 3, 0);
        Check.due("know is none", x.count(1), 0);
        x.teach(0, 1, 0);
        x.teach(0, 1, 0);
        Check.due("one that may, one that may not", x.count(1), 1);
        Check.plan(x, "0>2a;0>2a");
        x.run();
        Check.due("run", x.count(1), 2);
        Check.sheet(x, 0, 0, 0, 1, 1, 0, 1, 2);
        x.hour(0, 0, 0, 1);
        Check.due("hour", x.count(1), 3);
        x.hour(0, 0, 0, 2);
        Check.due("an hour that may not be", x.count(1), 3);
        x.lessons(2);
        Check.due("lessons", x.count(1), 5);
        Check.type(x, "p");
        x.school();
        Check.due("a new school", x.count(1), 5);
    }

    /** Beyond 512 calls an object's answers are free, so no run that is promised comes so far; the class keeps to it. */
    private static void countDoneAtMost() {
        Check.sentence("11 count", "(1000000 at most)");
        TaughtHours x = Check.school("pa,p");
        for (int i = 0; i < 999999; i++) {
            x.teach(0, 1, 0);
            x.know(1, 0, -1);
        }
        Check.due("one less", x.count(1), 999999);
        for (int i = 0; i < 3; i++) {
            x.teach(0, 1, 0);
            x.know(1, 0, -1);
            Check.due("the most", x.count(1), 1000000);
        }
    }
}
