import static java.lang.Integer.MAX_VALUE;
import static java.lang.Integer.MIN_VALUE;

/** Boundary cases of part 4, sheets: promises 25 to 30, a sentence a test. */
public final class EdgesSheetsTest {
    private static final int BAD = -1, NOT = -2, NULL = -11, CAST = -12, INDEX = -13, SIZE = -14;

    public static void main(String[] args) {
        hourHowMany(); hourWrong(); hourNull(); hourCast(); hourFrom(); hourShortRows(); hourMayNot(); hourNamesNothing();
        hourChildInTwo(); hourAheadOfIt(); hourAllAtOnce(); hourWraps(); hourLanes();
        filmWrong(); filmNull(); filmCast(); filmFrom(); filmNobody(); filmHowMany(); filmSays(); filmUnknown(); filmLeavesTheRest();
        sheetHowMany(); sheetSize(); sheetWrong(); sheetNewRow(); sheetLanes();
        dropHad(); dropNull(); dropWrong();
        itemWrong(); itemNull(); itemCast(); itemIndex(); itemBytes(); itemShorts(); itemInts();
        copyWrong(); copyNull(); copyCast(); copyIndex(); copyNone(); copyAll(); copyAhead(); copyToAnother();
        Check.end();
    }

    /** What the first items of a sheet are, a digit each: children 0 to 5, or 9. The school is one of six in which 0 alone knows thing 0. */
    private static long row(TaughtHours x, int sheet, int lane, int n) {
        long all = 0;
        for (int i = 0; i < n; i++) all = all * 10 + Twin.itemAt(x, sheet, lane, i);
        return all;
    }

    private static TaughtHours six() {
        return Check.school("pa,p,p,p,p,p");
    }

    // ---- 25

    private static void hourHowMany() {
        Check.sentence("25 hour", "AN HOUR of n TEACHINGS (1 .. 3): n. BAD");
        for (int n = 1; n <= 3; n++) {
            TaughtHours x = Check.school("pa,p,pb,p,pc,p");
            Check.sheet(x, 0, 0, 0, 1, 0, 2, 3, 1, 4, 5, 2);
            Check.due("n " + n, x.hour(0, 0, 0, n), n);
            Check.due("done", x.count(1) * 10 + x.count(4), 11 * n + 3);
        }
        for (int n : new int[] {0, 4, -1, MIN_VALUE, MAX_VALUE, 1431655766}) {
            TaughtHours x = Check.school("pa,p,pb,p,pc,p");
            Check.sheet(x, 0, 0, 0, 1, 0, 2, 3, 1, 4, 5, 2, 0, 1, 1);
            Check.due("n " + n, x.hour(0, 0, 0, n), BAD);
            Check.due("none is done", x.count(1), 0);
        }
    }

    private static void hourWrong() {
        Check.sentence("25 hour", "BAD (a SHEET, a LANE)");
        TaughtHours x = six();
        for (int s = 0; s < 4; s++) Check.sheet(x, s, 0, 0, 1, 0);
        for (int s : Check.outside(4)) Check.due("sheet " + s, x.hour(s, 0, 0, 1), BAD);
        for (int lane : Check.outside(3)) Check.due("lane " + lane, x.hour(0, lane, 0, 1), BAD);
        Check.due("the first sheet", x.hour(0, 0, 0, 1), 1);
        x.know(1, 0, -1);
        Check.due("the last sheet", x.hour(3, 0, 0, 1), 1);
    }

    private static void hourNull() {
        Check.sentence("25 hour", "NULL");
        TaughtHours x = six();
        for (int s = 0; s < 4; s++) for (int lane = 0; lane < 3; lane++) Check.due("missing", x.hour(s, lane, 0, 1), NULL);
        x.sheet(2, 0, 24);
        x.drop(2);
        Check.due("dropped", x.hour(2, 0, 0, 1), NULL);
    }

    private static void hourCast() {
        Check.sentence("25 hour", "taken as a row of a LANE; CAST");
        for (int lane = 0; lane < 3; lane++) {
            TaughtHours x = six();
            Check.sheet(x, 1, lane, 0, 1, 0);
            for (int as = 0; as < 3; as++) if (as != lane) Check.due(lane + " as " + as, x.hour(1, as, 0, 1), CAST);
            Check.due("as it is", x.hour(1, lane, 0, 1), 1);
        }
    }

    private static void hourFrom() {
        Check.sentence("25 hour", "from one on; INDEX");
        for (int n = 1; n <= 3; n++) {
            TaughtHours x = Check.school("pa,p,pb,p,pc,p");
            x.sheet(0, 2, 24);
            int from = 24 - 3 * n;
            int[] three = {0, 1, 0, 2, 3, 1, 4, 5, 2};
            for (int i = 0; i < 3 * n; i++) x.item(0, 2, from + i, three[i]);
            for (int out : new int[] {from + 1, from + 2, 23, 24, 25, -1, -3, MAX_VALUE, MAX_VALUE - 3 * n, MIN_VALUE}) {
                if (out > from || out < 0) Check.due(n + " from " + out, x.hour(0, 2, out, n), INDEX);
            }
            Check.due("none is done", x.count(1), 0);
            Check.due("the last that goes", x.hour(0, 2, from, n), n);
        }
        TaughtHours x = six();
        Check.sheet(x, 0, 2, 0, 1, 0, 9, 9, 9);
        Check.due("from 0", x.hour(0, 2, 0, 1), 1);
    }

    private static void hourShortRows() {
        Check.sentence("25 hour", "three items each; INDEX (a row that is too short)");
        for (int size = 0; size <= 10; size++) {
            for (int n = 1; n <= 3; n++) {
                TaughtHours x = Check.school("pa,p,pb,p,pc,p");
                int[] three = {0, 1, 0, 2, 3, 1, 4, 5, 2, 0};
                x.sheet(0, 1, size);
                for (int i = 0; i < size; i++) x.item(0, 1, i, three[i]);
                Check.due(size + " items, n " + n, x.hour(0, 1, 0, n), size >= 3 * n ? n : INDEX);
            }
        }
    }

    private static void hourMayNot() {
        Check.sentence("25 hour", "NOT: one MAY not be");
        int[] good = {0, 1, 0, 2, 3, 1, 4, 5, 2};
        for (int k = 0; k < 3; k++) {
            // what the k-th teacher does not know
            TaughtHours x = Check.school("pa,p,pb,p,pc,p");
            Check.sheet(x, 0, 0, good);
            x.item(0, 0, 3 * k + 2, 3);
            Check.due("teacher of " + k, x.hour(0, 0, 0, 3), NOT);
            x.item(0, 0, 3 * k + 2, k);
            x.know(2 * k + 1, k, 50);
            Check.due("pupil of " + k + " knows", x.hour(0, 0, 0, 3), NOT);
            x.know(2 * k + 1, k, -1);
            x.need(k, 8);
            Check.due("pupil of " + k + " lacks", x.hour(0, 0, 0, 3), NOT);
            x.need(k, 0);
            x.hears(2 * k + 1, 2 * k, false);
            Check.due("pupil of " + k + " does not hear", x.hour(0, 0, 0, 3), NOT);
            Check.due("none is done", x.count(1) * 10 + x.count(4), 3);
            x.hears(2 * k + 1, 2 * k, true);
            Check.due("all three", x.hour(0, 0, 0, 3), 3);
        }
    }

    private static void hourNamesNothing() {
        Check.sentence("25 hour", "NOT: one MAY not be (its items name no child, no THING, or one alike)");
        int[] good = {0, 1, 0, 2, 3, 1, 4, 5, 2};
        for (int k = 0; k < 3; k++) {
            for (int part = 0; part < 3; part++) {
                for (int v : new int[] {-1, part == 2 ? 4 : 6, 97, 127, -128, MAX_VALUE, MIN_VALUE}) {
                    TaughtHours x = Check.school("pa,p,pb,p,pc,p");
                    Check.sheet(x, 0, 2, good);
                    x.item(0, 2, 3 * k + part, v);
                    Check.due("item " + v, x.hour(0, 2, 0, 3), NOT);
                    Check.due("none is done", x.count(1), 0);
                }
            }
            TaughtHours x = Check.school("pa,p,pb,p,pc,p");
            Check.sheet(x, 0, 2, good);
            x.item(0, 2, 3 * k + 1, 2 * k);
            Check.due("one alike", x.hour(0, 2, 0, 3), NOT);
            Check.due("none is done", x.count(1), 0);
        }
        // a child that is not there: the first number behind the last
        TaughtHours x = Check.school("pa,p,p");
        Check.sheet(x, 0, 0, 0, 3, 0);
        Check.due("not there", x.hour(0, 0, 0, 1), NOT);
        x.child(0);
        Check.due("there", x.hour(0, 0, 0, 1), 1);
    }

    private static void hourChildInTwo() {
        Check.sentence("25 hour", "NOT: a child is in two");
        int[][] hours = {{0, 1, 0, 0, 2, 0}, {0, 1, 0, 1, 2, 1}, {0, 1, 0, 2, 0, 2}, {0, 1, 0, 2, 1, 2}, {0, 1, 0, 0, 1, 3}, {0, 1, 0, 1, 0, 1}};
        for (int[] h : hours) {
            TaughtHours x = Check.school("pad,pb,pc");
            Check.sheet(x, 0, 0, h);
            Check.due("the first alone MAY be", x.may(h[0], h[1], h[2]), 1);
            Check.due("the second alone MAY be", x.may(h[3], h[4], h[5]), 1);
            Check.due("both", x.hour(0, 0, 0, 2), NOT);
            Check.due("none is done", x.count(1) * 10 + x.count(4), 4);
        }
        TaughtHours x = Check.school("pad,p,pb,p,p,p");
        Check.sheet(x, 0, 0, 0, 1, 0, 2, 3, 1, 0, 4, 3);
        Check.due("the first and the third", x.hour(0, 0, 0, 3), NOT);
        Check.due("none is done", x.count(1), 0);
        Check.sheet(x, 0, 0, 0, 1, 0, 2, 3, 1, 2, 4, 1);
        Check.due("the second and the third", x.hour(0, 0, 0, 3), NOT);
        Check.due("none is done", x.count(1), 0);
    }

    private static void hourAheadOfIt() {
        Check.sentence("25 hour", "each as it MAY be by what was known ahead of THE HOUR");
        TaughtHours x = Check.school("pa,p,p");
        Check.sheet(x, 0, 0, 0, 1, 0, 1, 2, 0);
        Check.due("what is learnt in it is not passed on in it", x.hour(0, 0, 0, 2), NOT);
        Check.due("none is done", x.count(1), 0);
        Check.due("the first", x.hour(0, 0, 0, 1), 1);
        Check.due("then the second", x.hour(0, 0, 3, 1), 1);
    }

    private static void hourAllAtOnce() {
        Check.sentence("25 hour", "all at once: n");
        TaughtHours x = Check.school("p,w,h,l,l,h");
        x.know(0, 3, 96);
        x.know(2, 0, 96);
        x.know(4, 1, 60);
        Check.sheet(x, 3, 1, 9, 0, 1, 3, 2, 3, 0, 4, 5, 1, 9);
        Check.due("three", x.hour(3, 1, 1, 3), 3);
        Check.due("says", x.told(1, 6) * 10000 + x.told(3, 3) * 100 + x.told(5, 4), 960023);
        Check.due("done", x.count(1), 3);
        Check.due("the sheet stays", x.drop(3), 11);
    }

    private static void hourWraps() {
        Check.sentence("25 hour", "all as the rest by 97");
        int[][] wraps = {{0, 96, 96}, {1, 96, 0}, {2, 48, 96}, {2, 49, 1}, {3, 95, 0}, {3, 96, 96}};
        for (int[] w : wraps) {
            TaughtHours x = new TaughtHours();
            x.child(w[0]);
            x.child(0);
            x.know(0, 2, w[1]);
            Check.sheet(x, 0, 0, 0, 1, 2);
            x.hour(0, 0, 0, 1);
            Check.due("kind " + w[0] + " says " + w[1], x.told(1, 5), w[2]);
        }
    }

    private static void hourLanes() {
        Check.sentence("25 hour", "a row of a LANE: 0 bytes, 1 shorts, 2 ints");
        for (int lane = 0; lane < 3; lane++) {
            TaughtHours x = Check.school("p,p,p,p,pd,p");
            Check.sheet(x, 2, lane, 4, 5, 3);
            Check.due("lane " + lane, x.hour(2, lane, 0, 1), 1);
            Check.due("who learnt", x.told(5, 1), 8);
        }
    }

    // ---- 26

    private static void filmWrong() {
        Check.sentence("26 film", "BAD.");
        TaughtHours x = six();
        for (int s = 0; s < 4; s++) x.sheet(s, 0, 6);
        for (int t : new int[] {-1, 4, MIN_VALUE, MAX_VALUE}) Check.due("thing " + t, x.film(t, 0, 0, 0), BAD);
        for (int s : Check.outside(4)) Check.due("sheet " + s, x.film(0, s, 0, 0), BAD);
        for (int lane : Check.outside(3)) Check.due("lane " + lane, x.film(0, 0, lane, 0), BAD);
        Check.due("the first", x.film(0, 0, 0, 0), 6);
        Check.due("the last", x.film(3, 3, 0, 0), 6);
    }

    private static void filmNull() {
        Check.sentence("26 film", "NULL");
        TaughtHours x = six();
        for (int s = 0; s < 4; s++) for (int lane = 0; lane < 3; lane++) Check.due("missing", x.film(0, s, lane, 0), NULL);
        Check.due("nobody there", new TaughtHours().film(0, 0, 0, 0), NULL);
    }

    private static void filmCast() {
        Check.sentence("26 film", "taken as a row of a LANE; CAST");
        for (int lane = 0; lane < 3; lane++) {
            TaughtHours x = six();
            x.sheet(1, lane, 6);
            for (int as = 0; as < 3; as++) if (as != lane) Check.due(lane + " as " + as, x.film(0, 1, as, 0), CAST);
            Check.due("as it is", x.film(0, 1, lane, 0), 6);
        }
    }

    private static void filmFrom() {
        Check.sentence("26 film", "from one on; INDEX");
        for (int size = 0; size <= 24; size++) {
            TaughtHours x = six();
            x.sheet(0, 1, size);
            Check.due("of " + size + " the first that does not go", x.film(0, 0, 1, Math.max(0, size - 5)), INDEX);
            Check.due("of " + size + " the end", x.film(0, 0, 1, size), INDEX);
            for (int from : new int[] {-1, -6, MIN_VALUE, MAX_VALUE, MAX_VALUE - 5}) Check.due("from " + from, x.film(0, 0, 1, from), INDEX);
            if (size < 6) continue;
            Check.due("of " + size + " the last that goes", x.film(0, 0, 1, size - 6), 6);
            Check.due("of " + size + " the first that goes", x.film(0, 0, 1, 0), 6);
        }
    }

    private static void filmNobody() {
        Check.sentence("26 film", "how many (nobody)");
        TaughtHours x = new TaughtHours();
        x.sheet(0, 0, 0);
        x.sheet(1, 2, 24);
        Check.due("an empty row", x.film(0, 0, 0, 0), 0);
        Check.due("its end", x.film(0, 1, 2, 24), 0);
        Check.due("behind it", x.film(0, 1, 2, 25), INDEX);
        Check.due("ahead of it", x.film(0, 1, 2, -1), INDEX);
        Check.due("another lane", x.film(0, 1, 0, 0), CAST);
    }

    private static void filmHowMany() {
        Check.sentence("26 film", "What all CHILDREN SAY: how many");
        TaughtHours x = new TaughtHours();
        for (int n = 0; n <= 6; n++) {
            x.sheet(0, 2, n);
            Check.due(n + " there", x.film(0, 0, 2, 0), n);
            if (n > 0) Check.due("one item less", x.film(0, 0, 2, 1), INDEX);
            x.child(0);
        }
    }

    private static void filmSays() {
        Check.sentence("26 film", "What all CHILDREN SAY of a THING comes to a SHEET, from one on");
        int[] says = {3, 0, 5, 1, 4, 2};
        for (int lane = 0; lane < 3; lane++) {
            for (int t = 0; t < 4; t++) {
                TaughtHours x = six();
                for (int c = 0; c < 6; c++) x.know(c, t, says[c]);
                x.sheet(0, lane, 8);
                Check.due("film", x.film(t, 0, lane, 1), 6);
                for (int c = 0; c < 6; c++) x.know(c, 0, c == 0 ? 0 : -1);
                Check.due("row", row(x, 0, lane, 8), 3051420);
            }
        }
    }

    private static void filmUnknown() {
        Check.sentence("26 film", "(97: does not know it)");
        for (int lane = 0; lane < 3; lane++) {
            TaughtHours x = six();
            x.know(2, 3, 5);
            x.sheet(0, lane, 6);
            x.film(3, 0, lane, 0);
            Check.due("97 is no child", row(x, 0, lane, 6), 995999);
        }
    }

    private static void filmLeavesTheRest() {
        Check.sentence("26 film", "from one on (the other items stay)");
        TaughtHours x = Check.school("p,p");
        x.know(0, 0, 1);
        x.know(1, 0, 2);
        Check.sheet(x, 0, 0, 5, 5, 5, 5, 5);
        x.film(0, 0, 0, 2);
        Check.type(x, "pa,p,p,p,p,p");
        x.school();
        Check.due("row", row(x, 0, 0, 5), 55125);
    }

    // ---- 27

    private static void sheetHowMany() {
        Check.sentence("27 sheet", "of 0 to 24 items: n. BAD: also n above 24");
        for (int lane = 0; lane < 3; lane++) {
            for (int n = 0; n <= 24; n++) {
                TaughtHours x = new TaughtHours();
                Check.due("n " + n, x.sheet(lane, lane, n), n);
                Check.due("behind its end", x.item(lane, lane, n, 1), INDEX);
                if (n > 0) Check.due("its last", x.item(lane, lane, n - 1, 1), 1);
                Check.due("how many", x.drop(lane), n);
            }
            for (int n : new int[] {25, 26, MAX_VALUE}) {
                TaughtHours x = new TaughtHours();
                Check.due("n " + n, x.sheet(0, lane, n), BAD);
                Check.due("nothing still", x.drop(0), NULL);
            }
        }
    }

    private static void sheetSize() {
        Check.sentence("27 sheet", "SIZE: n below 0.");
        for (int n : new int[] {-1, -2, -25, MIN_VALUE}) {
            TaughtHours x = new TaughtHours();
            Check.due("n " + n, x.sheet(3, 2, n), SIZE);
            Check.due("nothing still", x.drop(3), NULL);
            x.sheet(3, 1, 7);
            Check.due("n " + n, x.sheet(3, 2, n), SIZE);
            Check.due("the lane still", x.item(3, 1, 6, 0), 1);
            Check.due("seven still", x.drop(3), 7);
        }
    }

    private static void sheetWrong() {
        Check.sentence("27 sheet", "BAD (a SHEET, a LANE)");
        TaughtHours x = new TaughtHours();
        for (int s : Check.outside(4)) for (int n : new int[] {0, 24, -1}) Check.due("sheet " + s, x.sheet(s, 0, n), BAD);
        for (int lane : Check.outside(3)) for (int n : new int[] {0, 24, -1}) Check.due("lane " + lane, x.sheet(0, lane, n), BAD);
        for (int s = 0; s < 4; s++) Check.due("nothing still", x.drop(s), NULL);
        Check.due("the first", x.sheet(0, 0, 1), 1);
        Check.due("the last", x.sheet(3, 2, 1), 1);
    }

    private static void sheetNewRow() {
        Check.sentence("27 sheet", "A SHEET holds a new row");
        for (int lane = 0; lane < 3; lane++) {
            TaughtHours x = six();
            Check.sheet(x, 0, lane, 5, 4, 3, 2);
            x.sheet(0, lane, 4);
            Check.due("the same size", row(x, 0, lane, 4), 0);
            Check.sheet(x, 0, lane, 5, 4, 3, 2);
            x.sheet(0, lane, 2);
            x.sheet(0, lane, 6);
            Check.due("shorter and longer", row(x, 0, lane, 6), 0);
            Check.sheet(x, 0, lane, 5, 4, 3, 2);
            x.drop(0);
            x.sheet(0, lane, 4);
            Check.due("dropped", row(x, 0, lane, 4), 0);
            x.sheet(0, lane, 24);
            Check.due("its last", Twin.itemAt(x, 0, lane, 23), 0);
        }
    }

    private static void sheetLanes() {
        Check.sentence("27 sheet", "a new row of a LANE");
        for (int before = 0; before < 3; before++) {
            for (int lane = 0; lane < 3; lane++) {
                TaughtHours x = new TaughtHours();
                x.sheet(2, before, 3);
                x.sheet(2, lane, 5);
                for (int as = 0; as < 3; as++) Check.due(before + " then " + lane + " as " + as, x.item(2, as, 4, 1), as == lane ? 1 : CAST);
            }
        }
    }

    // ---- 28

    private static void dropHad() {
        Check.sentence("28 drop", "A SHEET holds nothing: how many items it had");
        for (int n : new int[] {0, 1, 23, 24}) {
            TaughtHours x = new TaughtHours();
            for (int s = 0; s < 4; s++) x.sheet(s, 1, n);
            Check.due("had " + n, x.drop(1), n);
            Check.due("nothing then", x.drop(1), NULL);
            Check.due("another stays", x.drop(2), n);
            Check.due("the first", x.drop(0), n);
            Check.due("the last", x.drop(3), n);
        }
    }

    private static void dropNull() {
        Check.sentence("28 drop", "NULL");
        TaughtHours x = new TaughtHours();
        for (int s = 0; s < 4; s++) Check.due("at first", x.drop(s), NULL);
        x.sheet(0, 2, 3);
        x.drop(0);
        for (int lane = 0; lane < 3; lane++) Check.due("nothing to take", x.item(0, lane, 0, 0), NULL);
        x.sheet(0, 1, 0);
        Check.due("an empty row is not nothing", x.drop(0), 0);
    }

    private static void dropWrong() {
        Check.sentence("28 drop", "BAD");
        TaughtHours x = new TaughtHours();
        for (int s : Check.outside(4)) Check.due("sheet " + s, x.drop(s), BAD);
    }

    // ---- 29

    private static void itemWrong() {
        Check.sentence("29 item", "BAD");
        TaughtHours x = new TaughtHours();
        for (int s = 0; s < 4; s++) x.sheet(s, 0, 1);
        for (int s : Check.outside(4)) Check.due("sheet " + s, x.item(s, 0, 0, 0), BAD);
        for (int lane : Check.outside(3)) Check.due("lane " + lane, x.item(0, lane, 0, 0), BAD);
        Check.due("the first", x.item(0, 0, 0, 0), 1);
        Check.due("the last", x.item(3, 0, 0, 0), 1);
    }

    private static void itemNull() {
        Check.sentence("29 item", "NULL");
        TaughtHours x = new TaughtHours();
        for (int s = 0; s < 4; s++) for (int lane = 0; lane < 3; lane++) Check.due("missing", x.item(s, lane, 0, 0), NULL);
    }

    private static void itemCast() {
        Check.sentence("29 item", "taken as a row of a LANE; CAST");
        for (int lane = 0; lane < 3; lane++) {
            TaughtHours x = new TaughtHours();
            x.sheet(0, lane, 1);
            for (int as = 0; as < 3; as++) Check.due(lane + " as " + as, x.item(0, as, 0, 0), as == lane ? 1 : CAST);
        }
    }

    private static void itemIndex() {
        Check.sentence("29 item", "Item i of a SHEET; INDEX");
        for (int size : new int[] {0, 1, 2, 23, 24}) {
            TaughtHours x = new TaughtHours();
            x.sheet(0, 0, size);
            for (int i = 0; i < size; i++) Check.due("item " + i, x.item(0, 0, i, 1), 1);
            for (int i : new int[] {size, size + 1, 24, -1, MIN_VALUE, MAX_VALUE}) Check.due("of " + size + " item " + i, x.item(0, 0, i, 1), INDEX);
        }
    }

    /** What a row of a lane makes of v: a child's number, or 9. */
    private static int kept(int lane, int v) {
        TaughtHours x = six();
        Check.sheet(x, 0, lane, v);
        return Twin.itemAt(x, 0, lane, 0);
    }

    private static void itemBytes() {
        Check.sentence("29 item", "becomes v, its lowest bits: 1. (0 bytes)");
        int[] v = {0, 5, 6, 127, 128, 255, 256, 257, 261, 65536, 65539, -1, -256, -252, MIN_VALUE, MIN_VALUE + 2, MAX_VALUE, 0x12345604, 384, 133};
        int[] want = {0, 5, 9, 9, 9, 9, 0, 1, 5, 0, 3, 9, 0, 4, 0, 2, 9, 4, 9, 9};
        for (int i = 0; i < v.length; i++) Check.due("v " + v[i], kept(0, v[i]), want[i]);
    }

    private static void itemShorts() {
        Check.sentence("29 item", "becomes v, its lowest bits: 1. (1 shorts)");
        int[] v = {0, 5, 6, 127, 256, 257, 32767, 32768, 65535, 65536, 65539, 131077, -1, -65536, -65532, MIN_VALUE, MIN_VALUE + 2, MAX_VALUE, 0x12340004};
        int[] want = {0, 5, 9, 9, 9, 9, 9, 9, 9, 0, 3, 5, 9, 0, 4, 0, 2, 9, 4};
        for (int i = 0; i < v.length; i++) Check.due("v " + v[i], kept(1, v[i]), want[i]);
    }

    private static void itemInts() {
        Check.sentence("29 item", "becomes v, its lowest bits: 1. (2 ints)");
        int[] v = {0, 5, 6, 256, 257, 65536, 65539, -1, -65532, MIN_VALUE, MIN_VALUE + 2, MAX_VALUE};
        int[] want = {0, 5, 9, 9, 9, 9, 9, 9, 9, 9, 9, 9};
        for (int i = 0; i < v.length; i++) Check.due("v " + v[i], kept(2, v[i]), want[i]);
    }

    // ---- 30

    private static void copyWrong() {
        Check.sentence("30 copy", "BAD");
        TaughtHours x = new TaughtHours();
        for (int s = 0; s < 4; s++) x.sheet(s, 0, 2);
        for (int s : Check.outside(4)) {
            Check.due("from " + s, x.copy(s, 0, 0, 0, 1), BAD);
            Check.due("to " + s, x.copy(0, 0, s, 0, 1), BAD);
            Check.due("both " + s, x.copy(s, 0, s, 0, 1), BAD);
        }
        Check.due("first to last", x.copy(0, 0, 3, 0, 2), 2);
        Check.due("last to first", x.copy(3, 0, 0, 0, 2), 2);
    }

    private static void copyNull() {
        Check.sentence("30 copy", "NULL (either)");
        TaughtHours x = new TaughtHours();
        x.sheet(0, 0, 2);
        Check.due("to nothing", x.copy(0, 0, 1, 0, 1), NULL);
        Check.due("from nothing", x.copy(1, 0, 0, 0, 1), NULL);
        Check.due("both", x.copy(1, 0, 2, 0, 1), NULL);
        Check.due("both the same", x.copy(1, 0, 1, 0, 1), NULL);
        Check.due("no items", x.copy(0, 0, 1, 0, 0), NULL);
        Check.due("no items", x.copy(1, 0, 0, 0, 0), NULL);
    }

    private static void copyCast() {
        Check.sentence("30 copy", "CAST: of unlike LANES");
        for (int a = 0; a < 3; a++) {
            for (int b = 0; b < 3; b++) {
                TaughtHours x = new TaughtHours();
                x.sheet(0, a, 2);
                x.sheet(1, b, 2);
                Check.due(a + " to " + b, x.copy(0, 0, 1, 0, 2), a == b ? 2 : CAST);
                Check.due(a + " to " + b + ", none", x.copy(0, 0, 1, 0, 0), a == b ? 0 : CAST);
            }
        }
    }

    private static void copyIndex() {
        Check.sentence("30 copy", "INDEX");
        TaughtHours x = six();
        Check.sheet(x, 0, 0, 1, 2, 3, 4);
        Check.sheet(x, 1, 0, 5, 5, 5);
        int[][] out = {{0, 0, 4}, {0, 1, 3}, {2, 0, 3}, {4, 0, 1}, {0, 3, 1}, {-1, 0, 1}, {0, -1, 1}, {0, 0, -1}, {0, 0, -4},
            {5, 0, 0}, {0, 4, 0}, {-1, 0, 0}, {0, -1, 0}, {MAX_VALUE, 0, 1}, {0, MAX_VALUE, 1}, {0, 0, MAX_VALUE}, {1, 1, MAX_VALUE},
            {MAX_VALUE, MAX_VALUE, MAX_VALUE}, {MIN_VALUE, 0, 1}, {0, MIN_VALUE, 1}, {0, 0, MIN_VALUE}, {4, 3, MIN_VALUE}};
        for (int[] o : out) Check.due("from " + o[0] + " to " + o[1] + " n " + o[2], x.copy(0, o[0], 1, o[1], o[2]), INDEX);
        Check.due("the other way", x.copy(1, 0, 0, 0, 4), INDEX);
        Check.due("the same", x.copy(0, 0, 0, 1, 4), INDEX);
        Check.due("the same", x.copy(0, 1, 0, 0, 4), INDEX);
        Check.due("nothing came", row(x, 1, 0, 3), 555);
        Check.due("the last that goes", x.copy(0, 1, 1, 0, 3), 3);
        Check.due("one to the end", x.copy(0, 3, 1, 2, 1), 1);
    }

    private static void copyNone() {
        Check.sentence("30 copy", "n items: n (none)");
        TaughtHours x = six();
        Check.sheet(x, 0, 0, 1, 2);
        x.sheet(1, 0, 0);
        Check.due("to an empty row", x.copy(0, 0, 1, 0, 0), 0);
        Check.due("from an empty row", x.copy(1, 0, 0, 0, 0), 0);
        Check.due("from the end to the end", x.copy(0, 2, 1, 0, 0), 0);
        Check.due("to the end", x.copy(1, 0, 0, 2, 0), 0);
        Check.due("behind the end", x.copy(1, 1, 0, 0, 0), INDEX);
        Check.due("behind the end", x.copy(1, 0, 0, 3, 0), INDEX);
        Check.due("one from an empty row", x.copy(1, 0, 0, 0, 1), INDEX);
        Check.due("one to an empty row", x.copy(0, 0, 1, 0, 1), INDEX);
        Check.due("as before", row(x, 0, 0, 2), 12);
    }

    private static void copyAll() {
        Check.sentence("30 copy", "n items (all 24)");
        for (int lane = 0; lane < 3; lane++) {
            TaughtHours x = six();
            x.sheet(0, lane, 24);
            x.sheet(2, lane, 24);
            for (int i = 0; i < 24; i++) x.item(0, lane, i, i % 6);
            Check.due("all", x.copy(0, 0, 2, 0, 24), 24);
            Check.due("one too many", x.copy(0, 0, 2, 0, 25), INDEX);
            for (int i : new int[] {0, 1, 11, 22, 23}) Check.due("item " + i, Twin.itemAt(x, 2, lane, i), i % 6);
        }
    }

    private static void copyAhead() {
        Check.sentence("30 copy", "to another one (or the same), as if all were taken ahead");
        // from, to, n, and what 0 1 2 3 4 5 becomes
        int[][] cases = {{0, 1, 5, 1234}, {1, 0, 5, 123455}, {0, 2, 4, 10123}, {2, 0, 4, 234545}, {0, 0, 6, 12345},
            {0, 3, 3, 12012}, {3, 0, 3, 345345}, {2, 3, 2, 12235}, {3, 2, 2, 13445}, {0, 5, 1, 12340}, {5, 0, 1, 512345}};
        for (int[] c : cases) {
            for (int lane = 0; lane < 3; lane++) {
                TaughtHours x = six();
                Check.sheet(x, 0, lane, 0, 1, 2, 3, 4, 5);
                Check.due("n", x.copy(0, c[0], 0, c[1], c[2]), c[2]);
                Check.due(c[0] + " to " + c[1] + " n " + c[2], row(x, 0, lane, 6), c[3]);
            }
        }
    }

    private static void copyToAnother() {
        Check.sentence("30 copy", "n items of a SHEET from i on come to another one from j on");
        TaughtHours x = six();
        Check.sheet(x, 0, 1, 1, 2, 3, 4, 5);
        Check.sheet(x, 2, 1, 0, 0, 0, 0, 0, 0);
        Check.due("n", x.copy(0, 1, 2, 2, 3), 3);
        Check.due("come", row(x, 2, 1, 6), 2340);
        Check.due("the first stays", row(x, 0, 1, 5), 12345);
        Check.due("how many it has", x.drop(0), 5);
        Check.due("how many it has", x.drop(2), 6);
        // what came is a copy
        x = six();
        Check.sheet(x, 0, 1, 4);
        Check.sheet(x, 2, 1, 5);
        x.copy(0, 0, 2, 0, 1);
        x.item(0, 1, 0, 3);
        Check.due("apart", row(x, 2, 1, 1), 4);
    }
}
