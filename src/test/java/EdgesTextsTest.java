import static java.lang.Integer.MAX_VALUE;
import static java.lang.Integer.MIN_VALUE;

/** Boundary cases of the texts: promises 8 to 10, a sentence a test. */
public final class EdgesTextsTest {
    private static final int BAD = -1, FULL = -3;

    public static void main(String[] args) {
        typeHowMany(); typeBytes(); typeOnlyTheLowest(); typeHighestFirst(); typeFull(); typeFullTakesNone(); typeEmptiedAgain();
        schoolOneToSix(); schoolBetween(); schoolKinds(); schoolLetters(); schoolEachOnce(); schoolBlanks(); schoolEnd();
        schoolEmptiesTheTape(); schoolFaultStays(); schoolInPlace(); schoolLeavesTheRest(); schoolLongest();
        planHours(); planAtMost(); planForm(); planChildren(); planSameTwice(); planThings(); planBlanks(); planEnd();
        planEmptiesTheTape(); planFaultStays(); planIsKept(); planLongest();
        Check.end();
    }

    /** A plan's text of n teachings, all of them 0 > 1 a. */
    static String teachings(int n, char between) {
        StringBuilder text = new StringBuilder();
        for (int i = 0; i < n; i++) {
            if (i > 0) text.append(between);
            text.append("0>1a");
        }
        return text.toString();
    }

    private static String blanks(int n) {
        return " ".repeat(n);
    }

    // ---- 8

    private static void typeHowMany() {
        Check.sentence("8 type", "The n lowest bytes (1 .. 8); BAD: n");
        for (int n = 1; n <= 8; n++) Check.due("n " + n, new TaughtHours().type(Check.word("pppppppp"), n), n);
        for (int n : new int[] {0, 9, -1, 16, MIN_VALUE, MAX_VALUE}) {
            TaughtHours x = new TaughtHours();
            Check.due("n " + n, x.type(Check.word("pppppppp"), n), BAD);
            Check.due("the tape is empty", x.type('p', 1), 1);
        }
    }

    private static void typeBytes() {
        Check.sentence("8 type", "BAD: a byte not 32 .. 126");
        for (int n = 1; n <= 8; n++) {
            for (int place = 0; place < n; place++) {
                long others = Check.word("pppppppp") & ~(255L << 8 * place);
                for (long sign : new long[] {32, 33, 125, 126}) {
                    Check.due("byte " + sign, new TaughtHours().type(others | sign << 8 * place, n), n);
                }
                for (long sign : new long[] {0, 1, 31, 127, 128, 160, 255}) {
                    TaughtHours x = new TaughtHours();
                    Check.due("byte " + sign, x.type(others | sign << 8 * place, n), BAD);
                    Check.due("none of them comes", x.type('p', 1), 1);
                }
            }
        }
    }

    private static void typeOnlyTheLowest() {
        Check.sentence("8 type", "The n lowest bytes of w");
        for (int n = 1; n <= 7; n++) {
            for (long sign : new long[] {0, 31, 127, 255}) {
                long w = Check.word("pppppppp") & ~(255L << 8 * n) | sign << 8 * n;
                Check.due("a wrong byte ahead of them", new TaughtHours().type(w, n), n);
            }
        }
        Check.due("below 0, seven of them", new TaughtHours().type(255L << 56 | Check.word("ppppppp"), 7), 7);
        Check.due("below 0, all eight", new TaughtHours().type(255L << 56 | Check.word("ppppppp"), 8), BAD);
    }

    private static void typeHighestFirst() {
        Check.sentence("8 type", "of these the highest first, come behind THE TAPE: how many it has");
        TaughtHours x = new TaughtHours();
        Check.due("one", x.type('w', 1), 1);
        Check.due("eight", x.type(Check.word("ad,h,lb,"), 8), 9);
        Check.due("one", x.type('p', 1), 10);
        Check.due("school", x.school(), 4);
        int[] kinds = {3, 1, 2, 0};
        int[] known = {9, 0, 2, 0};
        for (int c = 0; c < 4; c++) Check.due("child " + c, x.told(c, 0) * 100 + x.told(c, 1), kinds[c] * 100 + known[c]);
    }

    private static void typeFull() {
        Check.sentence("8 type", "FULL: 160.");
        for (int n = 1; n <= 8; n++) {
            TaughtHours x = new TaughtHours();
            Check.type(x, blanks(160 - n));
            Check.due("the last " + n, x.type(Check.word("pppppppp"), n), 160);
            for (int more = 1; more <= 8; more++) Check.due("more", x.type(Check.word("pppppppp"), more), FULL);
            x = new TaughtHours();
            Check.type(x, blanks(161 - n));
            Check.due("one too many of " + n, x.type(Check.word("pppppppp"), n), FULL);
        }
    }

    private static void typeFullTakesNone() {
        Check.sentence("8 type", "FULL: 160. (none of the bytes comes)");
        TaughtHours x = new TaughtHours();
        Check.type(x, blanks(158) + "p");
        Check.due("two", x.type(Check.word("ab"), 2), FULL);
        Check.due("one", x.type('c', 1), 160);
        Check.due("another", x.type('d', 1), FULL);
        Check.due("school", x.school(), 1);
        Check.due("c alone", x.told(0, 1), 4);
    }

    private static void typeEmptiedAgain() {
        Check.sentence("8 type", "FULL: 160. (and behind school or plan all of it is free again)");
        TaughtHours x = new TaughtHours();
        Check.due("full", Check.type(x, blanks(160)), 160);
        x.school();
        Check.due("full again", Check.type(x, blanks(160)), 160);
        x.plan();
        Check.due("full again", Check.type(x, blanks(160)), 160);
        Check.due("one more", x.type('p', 1), FULL);
    }

    // ---- 9

    private static void school(String text, int want) {
        TaughtHours x = Check.school("lb,h");
        Check.type(x, text);
        Check.due("'" + text + "'", x.school(), want);
    }

    private static void schoolOneToSix() {
        Check.sentence("9 school", "1 to 6 with , between: how many CHILDREN");
        school("", -20);
        school("p", 1);
        school("p,h", 2);
        school("p,h,l,w,p", 5);
        school("p,h,l,w,p,h", 6);
        school("pabcd,habcd,labcd,wabcd,pabcd,habcd", 6);
        // a seventh can't stand, nor the sign ahead of it
        school("p,h,l,w,p,h,", -31);
        school("p,h,l,w,p,h,p", -31);
        school("p,h,l,w,p,h,x", -31);
        school("p,h,l,w,p,hd,p", -32);
        school("pabcd,habcd,labcd,wabcd,pabcd,habcd,", -55);
    }

    private static void schoolBetween() {
        Check.sentence("9 school", "with , between");
        school(",p", -20);
        school("p,", -22);
        school("p,,p", -22);
        school("p,h,", -24);
        school("pp", -21);
        school("p;p", -21);
        school("p+p", -21);
        school("p-p", -21);
        school("pa,,", -23);
        school("pahb", -22);
    }

    private static void schoolKinds() {
        Check.sentence("9 school", "p h l w (KINDS in this order)");
        for (int sign = 33; sign <= 126; sign++) {
            int kind = "phlw".indexOf(sign);
            TaughtHours x = Check.school("lb,h");
            x.type(sign, 1);
            Check.due("alone " + (char) sign, x.school(), kind >= 0 ? 1 : -20);
            if (kind >= 0) Check.due("kind", x.told(0, 0), kind);
            x = Check.school("lb,h");
            Check.type(x, "wd," + (char) sign);
            Check.due("behind " + (char) sign, x.school(), kind >= 0 ? 2 : -23);
            if (kind >= 0) Check.due("kind", x.told(1, 0), kind);
        }
    }

    private static void schoolLetters() {
        Check.sentence("9 school", "perhaps letters a .. d (THINGS it knows, as they are)");
        for (int sign = 33; sign <= 126; sign++) {
            if (sign == ',') continue;
            int thing = "abcd".indexOf(sign);
            TaughtHours x = Check.school("lb,h");
            Check.type(x, "p" + (char) sign);
            Check.due("letter " + (char) sign, x.school(), thing >= 0 ? 1 : -21);
            if (thing < 0) continue;
            Check.due("knows", x.told(0, 1), 1 << thing);
            Check.due("as it is", x.told(0, 3 + thing), 0);
        }
        for (String row : new String[] {"abcd", "dcba", "badc"}) {
            TaughtHours x = Check.school("w" + row + ",p");
            Check.due(row, x.told(0, 1), 15);
            Check.due("perhaps none", x.told(1, 1), 0);
        }
    }

    private static void schoolEachOnce() {
        Check.sentence("9 school", "letters a .. d, each once");
        for (char a = 'a'; a <= 'd'; a++) {
            school("p" + a + a, -22);
            school("pabcd" + a, -25);
            school("p" + a + ",h" + a, 2);
        }
        school("paba", -23);
        school("pabca,p", -24);
    }

    private static void schoolBlanks() {
        Check.sentence("9 school", "blanks do not count");
        school("  p  a  b  ,  h  ", 2);
        school(" p", 1);
        school("p ", 1);
        school("p a,h", 2);
        school("   x", -23);
        school("p   x", -24);
        school("p , x", -24);
        school("p a  a", -25);
        school(" p, h,l ,w,p,h  ,p", -36);
    }

    private static void schoolEnd() {
        Check.sentence("9 school", "the end: how many bytes there are");
        school("", -20);
        school(" ", -21);
        school(blanks(159), -179);
        school(blanks(160), -180);
        school("p,", -22);
        school("p,  ", -24);
        school("pab,", -24);
        school(" p ,", -24);
        school(blanks(158) + "p,", -180);
    }

    private static void schoolEmptiesTheTape() {
        Check.sentence("9 school", "THE TAPE, which is empty then");
        TaughtHours x = new TaughtHours();
        Check.type(x, "pa,h");
        x.school();
        Check.due("behind a school", x.school(), -20);
        Check.type(x, "pa,h,");
        Check.due("a fault", x.school(), -25);
        Check.due("behind a fault", x.type('p', 1), 1);
        Check.due("only that", x.school(), 1);
    }

    private static void schoolFaultStays() {
        Check.sentence("9 school", "A FAULT (those told stay)");
        for (String text : new String[] {"", "x", "pabcd,", "p,p,p,p,p,p,p", "wab,lcc"}) {
            Twin.alike("'" + text + "'", EdgesRefusalsTest::busyWithoutTape, EdgesRefusalsTest::busyWithoutTape, x -> {
                Check.type(x, text);
                return x.school();
            });
        }
    }

    private static void schoolInPlace() {
        Check.sentence("9 school", "in place of all CHILDREN (all HEAR all, there is no PLAN)");
        TaughtHours x = Check.school("pabcd,habcd,labcd,wabcd,pabcd,habcd");
        for (int a = 0; a < 6; a++) for (int b = 0; b < 6; b++) x.hears(a, b, false);
        for (int c = 0; c < 6; c++) x.know(c, 0, 50);
        Check.plan(x, "0>1a;2>3b");
        Check.type(x, "wb");
        Check.due("one", x.school(), 1);
        Check.due("count", x.count(0), 1);
        Check.due("hears", x.told(0, 2), 0);
        Check.due("knows", x.told(0, 1), 2);
        Check.due("plan", x.count(2) * 10 + x.count(3), 0);
        Check.due("run", x.run(), 0);
        Check.due("who was there", x.told(1, 0), BAD);
        Check.type(x, "p,p,p,p,p,h");
        Check.due("six", x.school(), 6);
        for (int c = 0; c < 6; c++) Check.due("hears " + c, x.told(c, 2), 63 & ~(1 << c));
        for (int c = 0; c < 6; c++) Check.due("knows " + c, x.told(c, 1), 0);
        Check.due("known", x.count(4) + x.count(5), 0);
    }

    private static void schoolLeavesTheRest() {
        Check.sentence("9 school", "in place of all CHILDREN (what THINGS NEED, THE DRAW, what was done, the IMAGE stay)");
        TaughtHours x = Check.school("pa,p");
        x.image();
        x.need(0, 14);
        x.need(3, 1);
        x.seed(99);
        x.know(1, 1, 0);
        x.teach(1, 0, 1);
        Check.sheet(x, 1, 2, 1, 2, 3);
        Check.type(x, "w,h,l");
        Check.due("three", x.school(), 3);
        Check.due("needs", x.need(0, 0) * 100 + x.need(3, 0), 1401);
        Check.due("draw", x.seed(1), 99);
        Check.due("done", x.count(1), 1);
        Check.due("sheet", x.drop(1), 3);
        Check.due("image", x.restore(), 1);
        Check.due("as it was", x.count(0) * 10 + x.count(4), 21);
    }

    private static void schoolLongest() {
        Check.sentence("9 school", "THE TAPE is a SCHOOL (all 160 bytes of it)");
        TaughtHours x = new TaughtHours();
        Check.due("full", Check.type(x, blanks(80) + "h" + blanks(76) + ",wd"), 160);
        Check.due("school", x.school(), 2);
        Check.due("the last byte", x.told(1, 1), 8);
        Check.due("full", Check.type(x, "p" + blanks(158) + "x"), 160);
        Check.due("the last byte", x.school(), -179);
    }

    // ---- 10

    private static void plan(String text, int want) {
        TaughtHours x = Check.school("pa,h,l");
        Check.type(x, text);
        Check.due("'" + text + "'", x.plan(), want);
    }

    private static void planHours() {
        Check.sentence("10 plan", "HOURS with ; between, each of a TEACHING or more with , between");
        plan("0>1a", 1);
        plan("0>1a,1>2a", 2);
        plan("0>1a;1>2a", 2);
        plan("0>1a;1>2a,0>1b;2>0c", 4);
        plan("", -20);
        plan(";0>1a", -20);
        plan(",0>1a", -20);
        plan("0>1a;", -25);
        plan("0>1a,", -25);
        plan("0>1a;;0>1a", -25);
        plan("0>1a,,0>1a", -25);
        plan("0>1a;,0>1a", -25);
        plan("0>1a,;0>1a", -25);
        plan("0>1a0>1a", -24);
        plan("0>1a:0>1a", -24);
        plan("0>1a<0>1a", -24);
        plan("0>1a+0>1a", -24);
        plan("0>1a-0>1a", -24);
        TaughtHours x = Check.school("pa,h,l");
        Check.plan(x, "0>1a;1>2a,0>1b;2>0c");
        Check.due("hours", x.count(3), 3);
        Check.plan(x, "0>1a,1>2a");
        Check.due("hours", x.count(3), 1);
    }

    private static void planAtMost() {
        Check.sentence("10 plan", "24 together at most; a 25th can't stand");
        for (char between : new char[] {',', ';'}) {
            plan(teachings(23, between), 23);
            plan(teachings(24, between), 24);
            plan(teachings(25, between), -139);
            plan(teachings(24, between) + ",", -139);
            plan(teachings(24, between) + ";", -139);
            plan(teachings(24, between) + "x", -139);
            plan(teachings(24, between) + " ", 24);
            plan(teachings(24, between) + "  ,0>1a", -141);
            plan(teachings(23, between) + between, -135);
        }
    }

    private static void planForm() {
        Check.sentence("10 plan", "a digit, > and a digit, and a letter; the place of the first byte that can't stand there");
        String good = "0>1a;2>0d";
        for (int at = 0; at < good.length(); at++) {
            String ahead = good.substring(0, at);
            for (char sign : new char[] {'!', '~', 'x', '/', ':', '?', '<', '`', 'e', '9', '='}) plan(ahead + sign, -20 - at);
        }
        plan(">0>1a", -20);
        plan("0>>1a", -22);
        plan("01>2a", -21);
        plan("0>12a", -23);
        plan("0>1ab", -24);
        plan("0>1 a1", -25);
    }

    private static void planChildren() {
        Check.sentence("10 plan", "a digit (CHILDREN that there are); a child that is not there");
        TaughtHours x = new TaughtHours();
        Check.due("nobody", Check.plan(x, "0>1a"), -20);
        x.child(0);
        Check.due("one alone", Check.plan(x, "0>1a"), -22);
        for (int n = 2; n <= 6; n++) {
            x.child(0);
            for (int digit = 0; digit <= 9; digit++) {
                if (digit > 0) Check.due(n + " there, pupil " + digit, Check.plan(x, "0>" + digit + "a"), digit < n ? 1 : -22);
                if (digit != 1) Check.due(n + " there, teacher " + digit, Check.plan(x, digit + ">1a"), digit < n ? 1 : -20);
            }
            for (char sign : new char[] {'/', ':'}) {
                Check.due(n + " there, pupil " + sign, Check.plan(x, "0>" + sign + "a"), -22);
                Check.due(n + " there, teacher " + sign, Check.plan(x, sign + ">1a"), -20);
            }
        }
    }

    private static void planSameTwice() {
        Check.sentence("10 plan", "the same twice in a TEACHING");
        TaughtHours x = Check.school("p,p,p,p,p,p");
        for (int c = 0; c < 6; c++) Check.due("child " + c, Check.plan(x, c + ">" + c + "a"), -22);
        Check.due("a later one", Check.plan(x, "0>1a,5>5a"), -27);
        Check.due("in two of an hour it can stand", Check.plan(x, "0>1a,0>1a,1>0a"), 3);
    }

    private static void planThings() {
        Check.sentence("10 plan", "and a letter a .. d (THING)");
        for (int sign = 33; sign <= 126; sign++) plan("0>1" + (char) sign, sign >= 'a' && sign <= 'd' ? 1 : -23);
        TaughtHours x = Check.school("pabcd,p");
        for (int t = 0; t < 4; t++) {
            Check.plan(x, "0>1" + (char) ('a' + t));
            x.run();
            Check.due("thing " + t, x.told(1, 1), (2 << t) - 1);
        }
    }

    private static void planBlanks() {
        Check.sentence("10 plan", "blanks do not count");
        plan("  0  >  1  a  ,  1  >  2  b  ;  2  >  0  c  ", 3);
        plan("  x", -22);
        plan("0  x", -23);
        plan("0 > x", -24);
        plan("0 > 0a", -24);
        plan("0 > 1 x", -26);
        plan("0 > 1 a x", -28);
        plan("0>1a , x", -27);
        plan(" " + teachings(24, ',') + " ,", -141);
    }

    private static void planEnd() {
        Check.sentence("10 plan", "the end: how many bytes there are");
        String good = "0>1a;2>0d,1>2c";
        for (int n = 0; n < good.length(); n++) {
            boolean whole = n % 5 == 4;
            plan(good.substring(0, n), whole ? n / 5 + 1 : -20 - n);
            plan(good.substring(0, n) + "   ", whole ? n / 5 + 1 : -23 - n);
        }
        plan(blanks(160), -180);
        plan(blanks(157) + "0>1", -180);
        plan(blanks(156) + "0>1a", 1);
    }

    private static void planEmptiesTheTape() {
        Check.sentence("10 plan", "THE TAPE, which is empty then");
        TaughtHours x = Check.school("pa,h");
        Check.plan(x, "0>1a");
        Check.due("behind a plan", x.plan(), -20);
        Check.due("a fault", Check.plan(x, "0>1a,"), -25);
        Check.due("behind a fault", x.type('p', 1), 1);
        Check.due("only that", x.school(), 1);
    }

    private static void planFaultStays() {
        Check.sentence("10 plan", "A FAULT (the one kept stays)");
        for (String text : new String[] {"", "x", "0>1a;1>2", "1>0a,2>2b", "2>1d;", teachings(25, ';')}) {
            Twin.alike("'" + text + "'", EdgesRefusalsTest::busyWithoutTape, EdgesRefusalsTest::busyWithoutTape, x -> Check.plan(x, text));
        }
    }

    private static void planIsKept() {
        Check.sentence("10 plan", "is a PLAN, which is kept: how many TEACHINGS");
        TaughtHours x = Check.school("pa,h,l");
        Check.plan(x, teachings(24, ';'));
        Check.due("a shorter one in its place", Check.plan(x, "0>2a"), 1);
        Check.due("counts", x.count(2) * 10 + x.count(3), 11);
        Check.due("run", x.run(), 1);
        Check.due("who learnt", x.told(1, 1) * 10 + x.told(2, 1), 1);
        Check.due("what may not be is kept too", Check.plan(x, "1>0d;1>0d"), 2);
        Check.due("counts", x.count(2) * 10 + x.count(3), 22);
    }

    private static void planLongest() {
        Check.sentence("10 plan", "THE TAPE is a PLAN (all 160 bytes of it)");
        TaughtHours x = Check.school("pabcd,p");
        Check.due("full", Check.type(x, "0>1a" + blanks(151) + ",0>1d"), 160);
        Check.due("plan", x.plan(), 2);
        Check.due("full", Check.type(x, "0>1a" + blanks(155) + "x"), 160);
        Check.due("the last byte", x.plan(), -179);
        Check.due("kept", x.count(2), 2);
    }
}
