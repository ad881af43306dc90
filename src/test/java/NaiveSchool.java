import java.util.ArrayList;
import java.util.Arrays;
import java.util.HashMap;
import java.util.HashSet;
import java.util.List;
import java.util.Map;
import java.util.Set;
import java.util.TreeSet;

/** The document done in the most roundabout and literal way, to hold the class against. */
final class NaiveSchool {
    private static final int BAD = -1, NOT = -2, FULL = -3, NONE = -4, NULL = -11, CAST = -12, INDEX = -13, SIZE = -14;

    private static final class Kid {
        int kind;
        Set<Kid> deafTo = new HashSet<>();
        Map<Integer, Integer> says = new HashMap<>();
    }

    private record Teaching(int teacher, int pupil, int thing) { }

    private List<Kid> kids = new ArrayList<>();
    private List<Set<Integer>> needs = new ArrayList<>();
    private List<List<Teaching>> plan = new ArrayList<>();
    private int done = 0;
    private long draw = 1;
    private NaiveSchool kept = null;
    private StringBuilder tape = new StringBuilder();
    private final Object[] sheets = new Object[4];

    NaiveSchool() {
        for (int t = 0; t < 4; t++) needs.add(new TreeSet<>());
    }

    private static Set<Integer> members(int set) {
        Set<Integer> all = new TreeSet<>();
        for (int i = 0; i < 31; i++) if ((set & 1 << i) != 0) all.add(i);
        return all;
    }

    private static int bits(Set<Integer> set) {
        int b = 0;
        for (int i : set) b += 1 << i;
        return b;
    }

    private boolean kid(int c) { return 0 <= c && c < kids.size(); }
    private static boolean thing(int t) { return 0 <= t && t <= 3; }
    private static boolean set(int s) { return 0 <= s && s <= 15; }

    int child(int kind) {
        if (kind < 0 || kind > 3) return BAD;
        if (kids.size() == 6) return FULL;
        Kid k = new Kid();
        k.kind = kind;
        kids.add(k);
        return kids.size() - 1;
    }

    int know(int child, int thing, int says) {
        if (!kid(child) || !thing(thing) || says < -1 || says > 96) return BAD;
        Integer was = says == -1 ? kids.get(child).says.remove(thing) : kids.get(child).says.put(thing, says);
        return was == null ? 97 : was;
    }

    int need(int thing, int set) {
        if (!thing(thing) || !set(set) || members(set).contains(thing)) return BAD;
        return bits(needs.set(thing, members(set)));
    }

    int hears(int a, int b, boolean is) {
        if (!kid(a) || !kid(b) || a == b) return BAD;
        Kid x = kids.get(a), y = kids.get(b);
        return (is ? x.deafTo.remove(y) : !x.deafTo.add(y)) ? 0 : 1;
    }

    private boolean hear(int a, int b) {
        return a != b && !kids.get(a).deafTo.contains(kids.get(b));
    }

    int told(int child, int what) {
        if (!kid(child) || what < 0 || what > 6) return BAD;
        Kid k = kids.get(child);
        if (what == 0) return k.kind;
        if (what == 1) return bits(k.says.keySet());
        if (what >= 3) return k.says.getOrDefault(what - 3, 97);
        int all = 0;
        for (int c = 0; c < kids.size(); c++) if (hear(child, c)) all |= 1 << c;
        return all;
    }

    private int passed(int child, int v) {
        int hasty = (v + 1) % 97;
        return new int[] {v, hasty, (v + v) % 97, 96 - hasty}[kids.get(child).kind];
    }

    int passes(int child, int v) {
        return kid(child) && v >= 0 && v <= 96 ? passed(child, v) : BAD;
    }

    int type(long w, int n) {
        if (n < 1 || n > 8) return BAD;
        StringBuilder more = new StringBuilder();
        for (int i = 0; i < n; i++) {
            char sign = (char) (w & 255);
            if (sign < 32 || sign > 126) return BAD;
            more.append(sign);
            w >>>= 8;
        }
        if (tape.length() + n > 160) return FULL;
        tape.append(more.reverse());
        return tape.length();
    }

    // Texts are tried sign by sign: a sign can stand if the text up to it begins some text of the form.

    private interface Form { int go(int state, char sign); }

    private static int fault(String text, Form form, java.util.function.IntPredicate ends) {
        int state = 0;
        for (int i = 0; i < text.length(); i++) {
            if (text.charAt(i) == ' ') continue;
            state = form.go(state, text.charAt(i));
            if (state < 0) return -20 - i;
        }
        return ends.test(state) ? 0 : -20 - text.length();
    }

    int school() {
        String text = tape.toString();
        tape = new StringBuilder();
        List<Kid> fresh = new ArrayList<>();
        // state 0: a kind is due, 1: behind a kind or a letter
        int fault = fault(text, (state, sign) -> {
            if (state == 0) {
                int kind = "phlw".indexOf(sign);
                if (kind < 0) return -1;
                Kid k = new Kid();
                k.kind = kind;
                fresh.add(k);
                return 1;
            }
            if (sign == ',') return fresh.size() < 6 ? 0 : -1;
            if (sign < 'a' || sign > 'd') return -1;
            return fresh.get(fresh.size() - 1).says.put(sign - 'a', 0) == null ? 1 : -1;
        }, state -> state == 1);
        if (fault != 0) return fault;
        kids = fresh;
        plan = new ArrayList<>();
        return kids.size();
    }

    int plan() {
        String text = tape.toString();
        tape = new StringBuilder();
        List<List<Teaching>> fresh = new ArrayList<>(List.of(new ArrayList<>()));
        int[] two = new int[2];
        int[] many = new int[1];
        int fault = fault(text, (state, sign) -> {
            switch (state) {
                case 0: two[0] = sign - '0'; return sign >= '0' && sign <= '9' && kid(two[0]) ? 1 : -1;
                case 1: return sign == '>' ? 2 : -1;
                case 2: two[1] = sign - '0'; return sign >= '0' && sign <= '9' && kid(two[1]) && two[0] != two[1] ? 3 : -1;
                case 3:
                    if (sign < 'a' || sign > 'd') return -1;
                    fresh.get(fresh.size() - 1).add(new Teaching(two[0], two[1], sign - 'a'));
                    many[0]++;
                    return 4;
                default:
                    if (many[0] == 24 || sign != ',' && sign != ';') return -1;
                    if (sign == ';') fresh.add(new ArrayList<>());
                    return 0;
            }
        }, state -> state == 4);
        if (fault != 0) return fault;
        plan = fresh;
        return many[0];
    }

    int count(int what) {
        int sum = 0;
        switch (what) {
            case 0: return kids.size();
            case 1: return done;
            case 2: for (List<Teaching> h : plan) sum += h.size(); return sum;
            case 3: return plan.size();
            case 4: for (Kid k : kids) sum += k.says.size(); return sum;
            case 5: for (Kid k : kids) for (int v : k.says.values()) if (v != 0) sum++; return sum;
            default: return BAD;
        }
    }

    private List<Set<Integer>> knowledge() {
        List<Set<Integer>> all = new ArrayList<>();
        for (Kid k : kids) all.add(new TreeSet<>(k.says.keySet()));
        return all;
    }

    private boolean mayBe(List<Set<Integer>> known, Teaching t) {
        return known.get(t.teacher).contains(t.thing) && !known.get(t.pupil).contains(t.thing)
            && known.get(t.pupil).containsAll(needs.get(t.thing)) && hear(t.pupil, t.teacher);
    }

    private void give(Teaching t) {
        kids.get(t.pupil).says.put(t.thing, passed(t.teacher, kids.get(t.teacher).says.get(t.thing)));
        done++;
    }

    private boolean wrong(int teacher, int pupil, int thing) {
        return !kid(teacher) || !kid(pupil) || !thing(thing) || teacher == pupil;
    }

    int may(int teacher, int pupil, int thing) {
        if (wrong(teacher, pupil, thing)) return BAD;
        return mayBe(knowledge(), new Teaching(teacher, pupil, thing)) ? 1 : 0;
    }

    int teach(int teacher, int pupil, int thing) {
        int may = may(teacher, pupil, thing);
        if (may != 1) return may == 0 ? NOT : BAD;
        give(new Teaching(teacher, pupil, thing));
        return told(pupil, 3 + thing);
    }

    int run() {
        int given = 0;
        for (List<Teaching> hour : plan) {
            List<Set<Integer>> ahead = knowledge();
            Set<Integer> in = new HashSet<>();
            for (Teaching t : hour) {
                if (in.contains(t.teacher) || in.contains(t.pupil) || !mayBe(ahead, t)) return given;
                in.add(t.teacher);
                in.add(t.pupil);
                give(t);
                given++;
            }
        }
        return given;
    }

    // ---- hours: all sets of teachings that make an hour, breadth first over all that can be known

    private List<Teaching> all(Set<Integer> things) {
        List<Teaching> all = new ArrayList<>();
        for (int a = 0; a < kids.size(); a++)
            for (int b = 0; b < kids.size(); b++)
                for (int t : things) if (a != b) all.add(new Teaching(a, b, t));
        return all;
    }

    int hours(int things) {
        if (!set(things)) return BAD;
        Set<Integer> set = members(things);
        if (kids.size() * set.size() > 12) return FULL;
        Set<List<Set<Integer>>> layer = new HashSet<>(List.of(knowledge()));
        Set<List<Set<Integer>>> seen = new HashSet<>(layer);
        for (int hours = 0; !layer.isEmpty(); hours++) {
            Set<List<Set<Integer>>> next = new HashSet<>();
            for (List<Set<Integer>> known : layer) {
                boolean over = true;
                for (Set<Integer> k : known) over &= k.containsAll(set);
                if (over) return hours;
                List<Teaching> can = new ArrayList<>();
                for (Teaching t : all(set)) if (mayBe(known, t)) can.add(t);
                anyHour(can, 0, 0, known, next);
            }
            next.removeAll(seen);
            seen.addAll(next);
            layer = next;
        }
        return NONE;
    }

    private static void anyHour(List<Teaching> can, int i, int in, List<Set<Integer>> known, Set<List<Set<Integer>>> out) {
        if (i == can.size()) {
            out.add(known);
            return;
        }
        anyHour(can, i + 1, in, known, out);
        Teaching t = can.get(i);
        if ((in & (1 << t.teacher | 1 << t.pupil)) != 0) return;
        List<Set<Integer>> more = new ArrayList<>(known);
        more.set(t.pupil, new TreeSet<>(known.get(t.pupil)));
        more.get(t.pupil).add(t.thing);
        anyHour(can, i + 1, in | 1 << t.teacher | 1 << t.pupil, more, out);
    }

    int bound(int things) {
        if (!set(things)) return BAD;
        int lacking = 0;
        for (Kid k : kids) for (int t : members(things)) if (!k.says.containsKey(t)) lacking++;
        int half = kids.size() / 2, hours = 0;
        if (lacking > 0 && half == 0) return NONE;
        while (hours * half < lacking) hours++;
        return hours;
    }

    private List<Set<Integer>> behindPlan(int absent) {
        List<Set<Integer>> known = knowledge();
        for (List<Teaching> hour : plan) {
            List<Set<Integer>> ahead = new ArrayList<>();
            for (Set<Integer> k : known) ahead.add(new TreeSet<>(k));
            Set<Integer> in = new HashSet<>();
            for (Teaching t : hour) {
                if (t.teacher == absent || t.pupil == absent) continue;
                if (in.contains(t.teacher) || in.contains(t.pupil) || !mayBe(ahead, t)) continue;
                in.addAll(List.of(t.teacher, t.pupil));
                known.get(t.pupil).add(t.thing);
            }
        }
        return known;
    }

    int spared() {
        int spared = 0;
        List<Set<Integer>> whole = behindPlan(-1);
        for (int c = 0; c < kids.size(); c++) {
            List<Set<Integer>> without = behindPlan(c);
            boolean is = true;
            for (int o = 0; o < kids.size(); o++) if (o != c) is &= without.get(o).containsAll(whole.get(o));
            if (is) spared |= 1 << c;
        }
        return spared;
    }

    int order(int things, int i) {
        if (!set(things) || i < 0 || i > 3) return BAD;
        List<Integer> row = firstRow(new ArrayList<>(), members(things));
        return row == null || i >= row.size() ? NONE : row.get(i);
    }

    private List<Integer> firstRow(List<Integer> row, Set<Integer> left) {
        if (left.isEmpty()) return fits(row) ? row : null;
        for (int t : left) {
            List<Integer> longer = new ArrayList<>(row);
            longer.add(t);
            Set<Integer> rest = new TreeSet<>(left);
            rest.remove(t);
            List<Integer> found = firstRow(longer, rest);
            if (found != null) return found;
        }
        return null;
    }

    private boolean fits(List<Integer> row) {
        for (int a = 0; a < row.size(); a++)
            for (int b = a + 1; b < row.size(); b++) if (needs.get(row.get(a)).contains(row.get(b))) return false;
        return true;
    }

    // ---- mouths: all rows of 0 .. 5 and 9 for those who know it, the lowest first

    private List<int[]> ways(int thing) {
        List<Integer> who = new ArrayList<>();
        for (int c = 0; c < kids.size(); c++) if (kids.get(c).says.containsKey(thing)) who.add(c);
        List<int[]> ways = new ArrayList<>();
        int[] row = new int[6];
        Arrays.fill(row, -1);
        if (!who.isEmpty()) rows(thing, who, 0, row, ways);
        return ways;
    }

    private void rows(int thing, List<Integer> who, int i, int[] row, List<int[]> ways) {
        if (i == who.size()) {
            if (isWay(who, row)) ways.add(row.clone());
            return;
        }
        int c = who.get(i);
        for (int p : who) {
            if (!hear(c, p)) continue;
            if (passed(p, kids.get(p).says.get(thing)) != kids.get(c).says.get(thing)) continue;
            row[c] = p;
            rows(thing, who, i + 1, row, ways);
        }
        row[c] = 9;
        rows(thing, who, i + 1, row, ways);
        row[c] = -1;
    }

    private static boolean isWay(List<Integer> who, int[] row) {
        int firsts = 0;
        for (int c : who) {
            if (row[c] == 9) firsts++;
            int at = c;
            for (int steps = 0; at != 9; steps++) {
                if (steps > 6) return false;
                at = row[at];
            }
        }
        return firsts == 1;
    }

    int mouths(int thing, int what) {
        if (!thing(thing) || what < 0 || what > 1) return BAD;
        List<int[]> ways = ways(thing);
        if (what == 0) return ways.size();
        int set = 0;
        for (int[] way : ways) for (int c = 0; c < 6; c++) if (way[c] == 9) set |= 1 << c;
        return set;
    }

    int from(int thing, int child) {
        if (!thing(thing) || !kid(child) || !kids.get(child).says.containsKey(thing)) return BAD;
        List<int[]> ways = ways(thing);
        return ways.isEmpty() ? NONE : ways.get(0)[child];
    }

    int lessons(int n) {
        if (n < 1 || n > 60) return BAD;
        for (int i = 0; i < n; i++) {
            List<Teaching> can = new ArrayList<>();
            for (Teaching t : all(members(15))) if (mayBe(knowledge(), t)) can.add(t);
            if (can.isEmpty()) return i;
            draw = (draw * 1103515245L + 12345L) % (1L << 31);
            give(can.get((int) (draw / 65536 % can.size())));
        }
        return n;
    }

    int seed(int v) {
        if (v < 0) return BAD;
        int was = (int) draw;
        draw = v;
        return was;
    }

    private void take(NaiveSchool o) {
        Map<Kid, Kid> twins = new HashMap<>();
        kids = new ArrayList<>();
        for (Kid k : o.kids) {
            Kid twin = new Kid();
            twin.kind = k.kind;
            twin.says = new HashMap<>(k.says);
            twins.put(k, twin);
            kids.add(twin);
        }
        for (Kid k : o.kids) for (Kid d : k.deafTo) twins.get(k).deafTo.add(twins.get(d));
        needs = new ArrayList<>(o.needs);
        plan = new ArrayList<>(o.plan);
        done = o.done;
        draw = o.draw;
    }

    int image() {
        kept = new NaiveSchool();
        kept.take(this);
        return 1;
    }

    int restore() {
        if (kept == null) return NONE;
        take(kept);
        return 1;
    }

    // ---- sheets: real rows, and what the machine finds

    private static boolean lane(int l) { return 0 <= l && l <= 2; }
    private static boolean sheetNumber(int s) { return 0 <= s && s <= 3; }

    private static int laneOf(Object row) {
        return row instanceof byte[] ? 0 : row instanceof short[] ? 1 : 2;
    }

    private int refused(int sheet, int lane, long from, long n) {
        Object row = sheets[sheet];
        if (row == null) return NULL;
        if (laneOf(row) != lane) return CAST;
        return from < 0 || from + n > java.lang.reflect.Array.getLength(row) ? INDEX : 0;
    }

    private void store(int sheet, int i, int v) {
        Object row = sheets[sheet];
        if (row instanceof byte[] b) b[i] = (byte) v;
        if (row instanceof short[] s) s[i] = (short) v;
        if (row instanceof int[] w) w[i] = v;
    }

    int hour(int sheet, int lane, int from, int n) {
        if (!sheetNumber(sheet) || !lane(lane) || n < 1 || n > 3) return BAD;
        int refused = refused(sheet, lane, from, 3L * n);
        if (refused != 0) return refused;
        List<Teaching> hour = new ArrayList<>();
        Set<Integer> in = new HashSet<>();
        for (int k = 0; k < n; k++) {
            int[] three = new int[3];
            for (int i = 0; i < 3; i++) three[i] = java.lang.reflect.Array.getInt(sheets[sheet], from + 3 * k + i);
            if (may(three[0], three[1], three[2]) != 1) return NOT;
            if (!in.add(three[0]) || !in.add(three[1])) return NOT;
            hour.add(new Teaching(three[0], three[1], three[2]));
        }
        for (Teaching t : hour) give(t);
        return n;
    }

    int film(int thing, int sheet, int lane, int from) {
        if (!thing(thing) || !sheetNumber(sheet) || !lane(lane)) return BAD;
        int refused = refused(sheet, lane, from, kids.size());
        if (refused != 0) return refused;
        for (int c = 0; c < kids.size(); c++) store(sheet, from + c, told(c, 3 + thing));
        return kids.size();
    }

    int sheet(int sheet, int lane, int n) {
        if (!sheetNumber(sheet) || !lane(lane) || n > 24) return BAD;
        if (n < 0) return SIZE;
        sheets[sheet] = lane == 0 ? new byte[n] : lane == 1 ? new short[n] : new int[n];
        return n;
    }

    int drop(int sheet) {
        if (!sheetNumber(sheet)) return BAD;
        if (sheets[sheet] == null) return NULL;
        int had = java.lang.reflect.Array.getLength(sheets[sheet]);
        sheets[sheet] = null;
        return had;
    }

    int item(int sheet, int lane, int i, int v) {
        if (!sheetNumber(sheet) || !lane(lane)) return BAD;
        int refused = refused(sheet, lane, i, 1);
        if (refused != 0) return refused;
        store(sheet, i, v);
        return 1;
    }

    int copy(int from, int i, int to, int j, int n) {
        if (!sheetNumber(from) || !sheetNumber(to)) return BAD;
        try {
            System.arraycopy(sheets[from], i, sheets[to], j, n);
        } catch (NullPointerException e) {
            return NULL;
        } catch (ArrayStoreException e) {
            return CAST;
        } catch (IndexOutOfBoundsException e) {
            return INDEX;
        }
        return n;
    }
}
