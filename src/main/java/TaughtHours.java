import java.util.Arrays;

/** A school without a master: children teach each other what they learnt before. */
public final class TaughtHours {
    public static final int BAD = -1, NOT = -2, FULL = -3, NONE = -4, NULL = -11, CAST = -12, INDEX = -13, SIZE = -14;

    private static final int CHILDREN = 6, THINGS = 4, KINDS = 4, ALL_THINGS = 15;
    private static final int SAYINGS = 97, UNKNOWN = 97, NOBODY = 9;
    private static final int HASTY = 1, LOUD = 2, WRONG = 3;
    private static final int PLAN_LIMIT = 24, TAPE_LIMIT = 160, DONE_LIMIT = 1000000, LESSON_LIMIT = 60;
    private static final int HOUR_LIMIT = 3, SEARCH_LIMIT = 12;
    private static final int SHEETS = 4, LANES = 3, ITEMS = 24, BYTES = 0, SHORTS = 1;
    private static final int FAULT = -20, BLANK = 32, LAST_BYTE = 126, END = -1;

    private final School now;
    private final School kept;
    private final Reader reader;
    private final Search search;
    private final Rumour rumour;
    private final Sheet[] sheets;
    private boolean hasImage;

    public TaughtHours() {
        now = new School();
        kept = new School();
        reader = new Reader();
        search = new Search();
        rumour = new Rumour();
        sheets = new Sheet[] {new Sheet(), new Sheet(), new Sheet(), new Sheet()};
    }

    // ---- 1 children, things

    public int child(int kind) {
        if (kind < 0 || kind >= KINDS) return BAD;
        return now.admit(kind);
    }

    public int know(int child, int thing, int says) {
        if (!now.isChild(child) || !isThing(thing) || says < -1 || says >= SAYINGS) return BAD;
        int before = now.saying(child, thing);
        now.setSaying(child, thing, says < 0 ? UNKNOWN : says);
        return before;
    }

    public int need(int thing, int set) {
        if (!isThing(thing) || !isSet(set) || has(set, thing)) return BAD;
        int before = now.needs[thing];
        now.needs[thing] = set;
        return before;
    }

    public int hears(int a, int b, boolean is) {
        if (!now.isChild(a) || !now.isChild(b) || a == b) return BAD;
        int before = now.heard[a];
        now.heard[a] = is ? before | 1 << b : before & ~(1 << b);
        return has(before, b) ? 1 : 0;
    }

    public int told(int child, int what) {
        if (!now.isChild(child) || what < 0 || what >= 3 + THINGS) return BAD;
        switch (what) {
            case 0: return now.kinds[child];
            case 1: return now.known[child];
            case 2: return now.heard[child];
            default: return now.saying(child, what - 3);
        }
    }

    public int passes(int child, int v) {
        if (!now.isChild(child) || v < 0 || v >= SAYINGS) return BAD;
        return passedOn(now.kinds[child], v);
    }

    public int type(long w, int n) {
        if (n < 1 || n > 8) return BAD;
        return reader.append(w, n);
    }

    public int school() {
        int answer = reader.readSchool();
        reader.clear();
        if (answer < 0) return answer;
        now.sendHome();
        for (int i = 0; i < answer && i < CHILDREN; i++) {
            now.admit(reader.kinds[i]);
            now.setKnown(i, reader.sets[i]);
        }
        return answer;
    }

    public int plan() {
        int answer = reader.readPlan(now.children);
        reader.clear();
        if (answer >= 0) now.plan.takeOver(reader.draft);
        return answer;
    }

    public int count(int what) {
        switch (what) {
            case 0: return now.children;
            case 1: return now.done;
            case 2: return now.plan.size;
            case 3: return now.plan.hours;
            case 4: return now.knownOf(ALL_THINGS);
            case 5: return now.garbled();
            default: return BAD;
        }
    }

    // ---- 2 teaching

    public int may(int teacher, int pupil, int thing) {
        if (!now.isTeaching(teacher, pupil, thing)) return BAD;
        return now.allows(now.known, teaching(teacher, pupil, thing)) ? 1 : 0;
    }

    public int teach(int teacher, int pupil, int thing) {
        if (!now.isTeaching(teacher, pupil, thing)) return BAD;
        int lesson = teaching(teacher, pupil, thing);
        if (!now.allows(now.known, lesson)) return NOT;
        now.perform(lesson);
        return now.saying(pupil, thing);
    }

    public int run() {
        return now.runPlan();
    }

    public int hours(int things) {
        if (!isSet(things)) return BAD;
        if (now.children * Integer.bitCount(things) > SEARCH_LIMIT) return FULL;
        return search.fewest(now, things);
    }

    public int bound(int things) {
        if (!isSet(things)) return BAD;
        int lacking = now.children * Integer.bitCount(things) - now.knownOf(things);
        if (lacking == 0) return 0;
        int pairs = now.children / 2;
        if (pairs == 0) return NONE;
        return (lacking + pairs - 1) / pairs;
    }

    public int spared() {
        return now.sparedSet();
    }

    public int order(int things, int i) {
        if (!isSet(things) || i < 0 || i >= THINGS) return BAD;
        int left = things;
        int answer = NONE;
        // the row is followed to its end: an i-th thing counts only if the whole row exists
        for (int place = 0; place < THINGS && left != 0; place++) {
            int thing = now.firstTellable(left);
            if (thing == NONE) return NONE;
            if (place == i) answer = thing;
            left &= ~(1 << thing);
        }
        return answer;
    }

    // ---- 3 mouths, lessons

    public int mouths(int thing, int what) {
        if (!isThing(thing) || what < 0 || what > 1) return BAD;
        rumour.listen(now, thing);
        return what == 0 ? rumour.countWays() : rumour.firstMouths();
    }

    public int from(int thing, int child) {
        if (!isThing(thing) || !now.isChild(child) || !has(now.known[child], thing)) return BAD;
        rumour.listen(now, thing);
        return rumour.sourceOf(child);
    }

    public int lessons(int n) {
        if (n < 1 || n > LESSON_LIMIT) return BAD;
        int given = 0;
        while (given < n && now.drawLesson()) given++;
        return given;
    }

    public int seed(int v) {
        if (v < 0) return BAD;
        int before = now.draw;
        now.draw = v;
        return before;
    }

    public int image() {
        kept.takeOver(now);
        hasImage = true;
        return 1;
    }

    public int restore() {
        if (!hasImage) return NONE;
        now.takeOver(kept);
        return 1;
    }

    // ---- 4 sheets

    public int hour(int sheet, int lane, int from, int n) {
        if (!isSheet(sheet) || !isLane(lane) || n < 1 || n > HOUR_LIMIT) return BAD;
        Sheet row = sheets[sheet];
        int refusal = row.refusal(lane, from, 3 * n);
        if (refusal != 0) return refusal;
        return now.holdHour(row.items, from, n) ? n : NOT;
    }

    public int film(int thing, int sheet, int lane, int from) {
        if (!isThing(thing) || !isSheet(sheet) || !isLane(lane)) return BAD;
        Sheet row = sheets[sheet];
        int refusal = row.refusal(lane, from, now.children);
        if (refusal != 0) return refusal;
        for (int c = 0; c < now.children; c++) row.put(from + c, now.saying(c, thing));
        return now.children;
    }

    public int sheet(int sheet, int lane, int n) {
        if (!isSheet(sheet) || !isLane(lane) || n > ITEMS) return BAD;
        if (n < 0) return SIZE;
        sheets[sheet].renew(lane, n);
        return n;
    }

    public int drop(int sheet) {
        if (!isSheet(sheet)) return BAD;
        Sheet row = sheets[sheet];
        if (row.isMissing()) return NULL;
        int had = row.size;
        row.discard();
        return had;
    }

    public int item(int sheet, int lane, int i, int v) {
        if (!isSheet(sheet) || !isLane(lane)) return BAD;
        Sheet row = sheets[sheet];
        int refusal = row.refusal(lane, i, 1);
        if (refusal != 0) return refusal;
        row.put(i, v);
        return 1;
    }

    public int copy(int from, int i, int to, int j, int n) {
        if (!isSheet(from) || !isSheet(to)) return BAD;
        Sheet source = sheets[from];
        Sheet target = sheets[to];
        if (source.isMissing() || target.isMissing()) return NULL;
        if (source.lane != target.lane) return CAST;
        if (!source.holds(i, n) || !target.holds(j, n)) return INDEX;
        System.arraycopy(source.items, i, target.items, j, n);
        return n;
    }

    // ---- what numbers mean

    private static boolean isThing(int thing) {
        return thing >= 0 && thing < THINGS;
    }

    private static boolean isSet(int things) {
        return things >= 0 && things <= ALL_THINGS;
    }

    private static boolean isSheet(int sheet) {
        return sheet >= 0 && sheet < SHEETS;
    }

    private static boolean isLane(int lane) {
        return lane >= 0 && lane < LANES;
    }

    private static boolean has(int set, int member) {
        return (set >> member & 1) != 0;
    }

    private static int passedOn(int kind, int v) {
        switch (kind) {
            case HASTY: return (v + 1) % SAYINGS;
            case LOUD: return 2 * v % SAYINGS;
            case WRONG: return SAYINGS - 1 - (v + 1) % SAYINGS;
            default: return v;
        }
    }

    // A TEACHING travels as one number, so that plans, draws and hours share the same steps.

    private static int teaching(int teacher, int pupil, int thing) {
        return (teacher * CHILDREN + pupil) * THINGS + thing;
    }

    private static int teacherOf(int teaching) {
        return teaching / (CHILDREN * THINGS);
    }

    private static int pupilOf(int teaching) {
        return teaching / THINGS % CHILDREN;
    }

    private static int thingOf(int teaching) {
        return teaching % THINGS;
    }

    private static int pairOf(int teaching) {
        return 1 << teacherOf(teaching) | 1 << pupilOf(teaching);
    }

    /** A plan: its teachings in a row, and where in it hours begin. */
    private static final class Plan {
        int size;
        int hours;
        final int[] teachings = new int[PLAN_LIMIT];
        final boolean[] opens = new boolean[PLAN_LIMIT];

        void clear() {
            size = 0;
            hours = 0;
        }

        boolean isFull() {
            return size >= PLAN_LIMIT;
        }

        void add(int teaching, boolean opensHour) {
            if (isFull()) return;
            teachings[size] = teaching;
            opens[size] = opensHour;
            size++;
            if (opensHour) hours++;
        }

        void takeOver(Plan other) {
            clear();
            for (int i = 0; i < other.size; i++) add(other.teachings[i], other.opens[i]);
        }
    }

    /** All that an image keeps. */
    private static final class School {
        int children;
        int done;
        int draw = 1;
        final int[] kinds = new int[CHILDREN];
        final int[] says = new int[CHILDREN * THINGS];
        final int[] known = new int[CHILDREN];
        final int[] heard = new int[CHILDREN];
        final int[] needs = new int[THINGS];
        final Plan plan = new Plan();
        // rows used again by calls that only try something out
        private final int[] whole = new int[CHILDREN];
        private final int[] trial = new int[CHILDREN];
        private final int[] choices = new int[CHILDREN * CHILDREN * THINGS];
        private final int[] together = new int[HOUR_LIMIT];

        boolean isChild(int child) {
            return child >= 0 && child < children;
        }

        boolean isTeaching(int teacher, int pupil, int thing) {
            return isChild(teacher) && isChild(pupil) && isThing(thing) && teacher != pupil;
        }

        int saying(int child, int thing) {
            return says[child * THINGS + thing];
        }

        void setSaying(int child, int thing, int saying) {
            says[child * THINGS + thing] = saying;
            if (saying == UNKNOWN) known[child] &= ~(1 << thing);
            else known[child] |= 1 << thing;
        }

        void setKnown(int child, int things) {
            for (int t = 0; t < THINGS; t++) setSaying(child, t, has(things, t) ? 0 : UNKNOWN);
        }

        int admit(int kind) {
            if (children >= CHILDREN) return FULL;
            int child = children;
            for (int c = 0; c < child; c++) heard[c] |= 1 << child;
            heard[child] = (1 << child) - 1;
            kinds[child] = kind;
            setKnown(child, 0);
            children++;
            return child;
        }

        void sendHome() {
            children = 0;
            plan.clear();
        }

        void takeOver(School other) {
            children = other.children;
            done = other.done;
            draw = other.draw;
            System.arraycopy(other.kinds, 0, kinds, 0, CHILDREN);
            System.arraycopy(other.says, 0, says, 0, CHILDREN * THINGS);
            System.arraycopy(other.known, 0, known, 0, CHILDREN);
            System.arraycopy(other.heard, 0, heard, 0, CHILDREN);
            System.arraycopy(other.needs, 0, needs, 0, THINGS);
            plan.takeOver(other.plan);
        }

        int knownOf(int things) {
            int sum = 0;
            for (int c = 0; c < children; c++) sum += Integer.bitCount(known[c] & things);
            return sum;
        }

        int garbled() {
            int sum = 0;
            for (int i = 0; i < children * THINGS; i++) {
                if (says[i] != 0 && says[i] != UNKNOWN) sum++;
            }
            return sum;
        }

        /** Whether a teaching may be, if the children know what these sets say. */
        boolean allows(int[] sets, int teaching) {
            int teacher = teacherOf(teaching);
            int pupil = pupilOf(teaching);
            int thing = thingOf(teaching);
            return has(sets[teacher], thing) && !has(sets[pupil], thing)
                && (needs[thing] & ~sets[pupil]) == 0 && has(heard[pupil], teacher);
        }

        void perform(int teaching) {
            int teacher = teacherOf(teaching);
            int thing = thingOf(teaching);
            setSaying(pupilOf(teaching), thing, passedOn(kinds[teacher], saying(teacher, thing)));
            if (done < DONE_LIMIT) done++;
        }

        /**
         * What the children know now stands for what they knew ahead of the hour:
         * a child that is in no teaching of the hour yet has learnt nothing in it.
         */
        int runPlan() {
            int busy = 0;
            for (int i = 0; i < plan.size; i++) {
                int teaching = plan.teachings[i];
                if (plan.opens[i]) busy = 0;
                if ((busy & pairOf(teaching)) != 0 || !allows(known, teaching)) return i;
                busy |= pairOf(teaching);
                perform(teaching);
            }
            return plan.size;
        }

        /** What all know behind the plan, without the teachings a child of the absent set is in. */
        private void goWithout(int absent, int[] sets) {
            System.arraycopy(known, 0, sets, 0, CHILDREN);
            int busy = absent;
            for (int i = 0; i < plan.size; i++) {
                int teaching = plan.teachings[i];
                if (plan.opens[i]) busy = absent;
                if ((busy & pairOf(teaching)) != 0 || !allows(sets, teaching)) continue;
                busy |= pairOf(teaching);
                sets[pupilOf(teaching)] |= 1 << thingOf(teaching);
            }
        }

        int sparedSet() {
            int set = 0;
            goWithout(0, whole);
            for (int c = 0; c < children; c++) {
                goWithout(1 << c, trial);
                if (trialIsAsGood(c)) set |= 1 << c;
            }
            return set;
        }

        private boolean trialIsAsGood(int absent) {
            for (int c = 0; c < children; c++) {
                if (c != absent && (whole[c] & ~trial[c]) != 0) return false;
            }
            return true;
        }

        int firstTellable(int things) {
            for (int t = 0; t < THINGS; t++) {
                if (has(things, t) && (needs[t] & things) == 0) return t;
            }
            return NONE;
        }

        boolean drawLesson() {
            int many = listChoices();
            if (many == 0) return false;
            draw = draw * 1103515245 + 12345 & 0x7fffffff;
            perform(choices[draw / 65536 % many]);
            return true;
        }

        private int listChoices() {
            int many = 0;
            for (int i = 0; i < CHILDREN * CHILDREN * THINGS; i++) {
                if (isTeaching(teacherOf(i), pupilOf(i), thingOf(i)) && allows(known, i)) choices[many++] = i;
            }
            return many;
        }

        /** Holds an hour of n teachings, three numbers each, if all of it may be. */
        boolean holdHour(int[] items, int from, int n) {
            int busy = 0;
            for (int k = 0; k < n; k++) {
                int at = from + 3 * k;
                if (!isTeaching(items[at], items[at + 1], items[at + 2])) return false;
                int teaching = teaching(items[at], items[at + 1], items[at + 2]);
                if ((busy & pairOf(teaching)) != 0 || !allows(known, teaching)) return false;
                busy |= pairOf(teaching);
                together[k] = teaching;
            }
            for (int k = 0; k < n; k++) perform(together[k]);
            return true;
        }
    }

    /** The tape, and the texts on it read into drafts, so that a fault leaves what is kept alone. */
    private static final class Reader {
        final int[] kinds = new int[CHILDREN];
        final int[] sets = new int[CHILDREN];
        final Plan draft = new Plan();
        private final byte[] tape = new byte[TAPE_LIMIT];
        private int size;
        private int place;

        int append(long w, int n) {
            for (int i = 0; i < n; i++) {
                int sign = signOf(w, i);
                if (sign < BLANK || sign > LAST_BYTE) return BAD;
            }
            if (size + n > TAPE_LIMIT) return FULL;
            for (int i = n - 1; i >= 0; i--) tape[size++] = (byte) signOf(w, i);
            return size;
        }

        private static int signOf(long w, int i) {
            return (int) (w >> 8 * i & 255);
        }

        void clear() {
            size = 0;
        }

        private void rewind() {
            place = 0;
            skipBlanks();
        }

        private void step() {
            place++;
            skipBlanks();
        }

        private void skipBlanks() {
            while (place < size && tape[place] == BLANK) place++;
        }

        private int sign() {
            return place < size ? tape[place] : END;
        }

        private boolean takes(int sign) {
            if (sign() != sign) return false;
            step();
            return true;
        }

        private int fault() {
            return FAULT - place;
        }

        int readSchool() {
            rewind();
            for (int n = 0; n < CHILDREN; n++) {
                if (n > 0 && !takes(',')) return fault();
                kinds[n] = kindOf(sign());
                if (kinds[n] < 0) return fault();
                step();
                sets[n] = readThings();
                if (sign() == END) return n + 1;
            }
            return fault();
        }

        private static int kindOf(int sign) {
            switch (sign) {
                case 'p': return 0;
                case 'h': return HASTY;
                case 'l': return LOUD;
                case 'w': return WRONG;
                default: return NONE;
            }
        }

        private int readThings() {
            int set = 0;
            for (int i = 0; i < THINGS; i++) {
                int thing = sign() - 'a';
                if (!isThing(thing) || has(set, thing)) return set;
                set |= 1 << thing;
                step();
            }
            return set;
        }

        int readPlan(int children) {
            rewind();
            draft.clear();
            for (int n = 0; n < PLAN_LIMIT; n++) {
                boolean opensHour = n == 0 || takes(';');
                if (!opensHour && !takes(',')) return fault();
                int teaching = readTeaching(children);
                if (teaching < 0) return fault();
                draft.add(teaching, opensHour);
                if (sign() == END) return draft.size;
            }
            return fault();
        }

        /** A teaching, or NONE with the place at what can't stand there. */
        private int readTeaching(int children) {
            int teacher = sign() - '0';
            if (teacher < 0 || teacher >= children) return NONE;
            step();
            if (!takes('>')) return NONE;
            int pupil = sign() - '0';
            if (pupil < 0 || pupil >= children || pupil == teacher) return NONE;
            step();
            int thing = sign() - 'a';
            if (!isThing(thing)) return NONE;
            step();
            return teaching(teacher, pupil, thing);
        }
    }

    /**
     * The fewest hours: by ever more hours, whether all can be taught within so many. To know
     * more never hinders, so only hours to which no teaching can be added are looked at.
     */
    private static final class Search {
        private final int[] needs = new int[THINGS];
        private final int[] open = new int[CHILDREN];
        private final int[] heard = new int[CHILDREN];
        // of each number of hours left: what each may teach each, and who is of use to whom
        private final int[] gains = new int[(SEARCH_LIMIT + 1) * CHILDREN * CHILDREN];
        private final int[] partners = new int[(SEARCH_LIMIT + 1) * CHILDREN];
        // of a state: the most hours that were too few from it on
        private final byte[] tooFew = new byte[1 << SEARCH_LIMIT];
        private int children;
        private int width;
        private int full;

        int fewest(School school, int things) {
            int start = load(school, things);
            if (start == full) return 0;
            if (closure(start) != full) return NONE;
            Arrays.fill(tooFew, (byte) 0);
            for (int hours = 1; hours <= SEARCH_LIMIT; hours++) {
                if (isEnough(hours, start)) return hours;
            }
            return NONE;
        }

        /** A state is one number: a field of as many bits as things for each child. */
        private int load(School school, int things) {
            children = school.children;
            width = Integer.bitCount(things);
            full = (1 << children * width) - 1;
            Arrays.fill(open, 0);
            int start = 0;
            int bit = 0;
            for (int t = 0; t < THINGS; t++) {
                if (!has(things, t)) continue;
                needs[bit] = squeeze(school.needs[t], things);
                for (int c = 0; c < children; c++) {
                    if (has(school.known[c], t)) start |= 1 << c * width + bit;
                    // what is needed beside the set is not taught on the way
                    if ((school.needs[t] & ~things & ~school.known[c]) == 0) open[c] |= 1 << bit;
                }
                bit++;
            }
            System.arraycopy(school.heard, 0, heard, 0, CHILDREN);
            return start;
        }

        private static int squeeze(int set, int things) {
            int squeezed = 0;
            int bit = 0;
            for (int t = 0; t < THINGS; t++) {
                if (!has(things, t)) continue;
                if (has(set, t)) squeezed |= 1 << bit;
                bit++;
            }
            return squeezed;
        }

        private int knownBy(int child, int state) {
            return state >> child * width & (1 << width) - 1;
        }

        private int learnable(int pupil, int state) {
            int known = knownBy(pupil, state);
            int set = 0;
            for (int bit = 0; bit < width; bit++) {
                if (!has(known, bit) && (needs[bit] & ~known) == 0) set |= 1 << bit;
            }
            return set & open[pupil];
        }

        /** All that can ever be known from a state on. */
        private int closure(int start) {
            int state = start;
            for (int round = 0; round < SEARCH_LIMIT; round++) {
                int before = state;
                for (int pupil = 0; pupil < children; pupil++) {
                    int offered = 0;
                    for (int c = 0; c < children; c++) {
                        if (has(heard[pupil], c)) offered |= knownBy(c, state);
                    }
                    state |= (offered & learnable(pupil, state)) << pupil * width;
                }
                if (state == before) return state;
            }
            return state;
        }

        private int lacking(int state) {
            return Integer.bitCount(full & ~state);
        }

        /** Twelve hours deep at most, each with a step for each of six children at most. */
        private boolean isEnough(int hours, int state) {
            if (state == full) return true;
            if (hours <= tooFew[state] || lacking(state) > hours * (children / 2)) return false;
            listGains(hours, state);
            if (pairUp(hours, (1 << children) - 1, 0, state)) return true;
            tooFew[state] = (byte) hours;
            return false;
        }

        private void listGains(int hours, int state) {
            int row = hours * CHILDREN;
            for (int c = 0; c < children; c++) partners[row + c] = 0;
            for (int pupil = 0; pupil < children; pupil++) {
                int set = learnable(pupil, state);
                for (int c = 0; c < children; c++) {
                    int gain = has(heard[pupil], c) ? set & knownBy(c, state) : 0;
                    gains[(row + c) * CHILDREN + pupil] = gain;
                    if (gain == 0) continue;
                    partners[row + c] |= 1 << pupil;
                    partners[row + pupil] |= 1 << c;
                }
            }
        }

        /** The first free child is in a teaching with another free one, or idle. */
        private boolean pairUp(int hours, int free, int idle, int state) {
            int stillTaught = Integer.bitCount(free) / 2 + (hours - 1) * (children / 2);
            if (lacking(state) > stillTaught) return false;
            if (free == 0) return isEnough(hours - 1, state);
            int child = firstOf(free);
            int row = hours * CHILDREN;
            for (int other = child + 1; other < children; other++) {
                if (!has(free & partners[row + child], other)) continue;
                int rest = free & ~(1 << child | 1 << other);
                int gain = gains[(row + child) * CHILDREN + other];
                if (pairTaught(hours, rest, idle, state, gain << other * width)) return true;
                gain = gains[(row + other) * CHILDREN + child];
                if (pairTaught(hours, rest, idle, state, gain << child * width)) return true;
            }
            // with an idle one that it could teach, or learn from, the hour could be added to
            if ((partners[row + child] & idle) != 0) return false;
            return pairUp(hours, free & ~(1 << child), idle | 1 << child, state);
        }

        /** The pair's teaching brings one of the chances, which are bits of the state. */
        private boolean pairTaught(int hours, int free, int idle, int state, int chances) {
            for (int bit = 0; bit < SEARCH_LIMIT; bit++) {
                if (has(chances, bit) && pairUp(hours, free, idle, state | 1 << bit)) return true;
            }
            return false;
        }

        private static int firstOf(int set) {
            for (int c = 0; c < CHILDREN; c++) {
                if (has(set, c)) return c;
            }
            return 0;
        }
    }

    /** Who may have had a thing from whom, from what all say of it. */
    private static final class Rumour {
        private final int[] sources = new int[CHILDREN];
        private int knowers;
        private int roots;
        private int rows;

        void listen(School school, int thing) {
            knowers = 0;
            for (int c = 0; c < school.children; c++) {
                if (has(school.known[c], thing)) knowers |= 1 << c;
            }
            roots = knowers;
            Arrays.fill(sources, 0);
            for (int c = 0; c < school.children; c++) {
                if (!has(knowers, c)) continue;
                int passed = passedOn(school.kinds[c], school.saying(c, thing));
                for (int pupil = 0; pupil < school.children; pupil++) {
                    if (has(knowers, pupil) && has(school.heard[pupil], c)
                        && school.saying(pupil, thing) == passed) sources[pupil] |= 1 << c;
                }
            }
        }

        /** Ways are trees that grow from a first mouth; a determinant counts them (Kirchhoff, Tutte). */
        int countWays() {
            int ways = 0;
            for (int root = 0; root < CHILDREN; root++) {
                if (!has(knowers, root)) continue;
                rows = knowers & ~(1 << root);
                ways += minor(0, rows);
            }
            return ways;
        }

        /**
         * The determinant by its rows from a child on (six deep at most): in a child's row
         * stands, at itself, how many sources it has, and -1 at each source.
         */
        private int minor(int child, int columns) {
            if (child >= CHILDREN) return 1;
            if (!has(rows, child)) return minor(child + 1, columns);
            int sum = 0;
            int sign = 1;
            for (int c = 0; c < CHILDREN; c++) {
                if (!has(columns, c)) continue;
                int entry = c == child ? Integer.bitCount(sources[child]) : has(sources[child], c) ? -1 : 0;
                if (entry != 0) sum += sign * entry * minor(child + 1, columns & ~(1 << c));
                sign = -sign;
            }
            return sum;
        }

        int firstMouths() {
            int set = 0;
            for (int c = 0; c < CHILDREN; c++) {
                if (has(roots, c) && reachesAll(c)) set |= 1 << c;
            }
            return set;
        }

        /** Whether all who know it can have had it, by others, from this one. */
        private boolean reachesAll(int root) {
            int reached = 1 << root;
            for (int round = 1; round < CHILDREN; round++) {
                for (int c = 0; c < CHILDREN; c++) {
                    if ((sources[c] & reached) != 0) reached |= 1 << c;
                }
            }
            return reached == knowers;
        }

        /** Settles child by child on the lowest source with which a way is left. */
        int sourceOf(int child) {
            if (firstMouths() == 0) return NONE;
            int source = NONE;
            for (int c = 0; c <= child; c++) {
                if (has(knowers, c)) source = settle(c);
            }
            return source;
        }

        private int settle(int child) {
            int possible = sources[child];
            int rootsBefore = roots;
            roots &= ~(1 << child);
            for (int c = 0; c < CHILDREN; c++) {
                if (!has(possible, c)) continue;
                sources[child] = 1 << c;
                if (firstMouths() != 0) return c;
            }
            sources[child] = 0;
            roots = rootsBefore & 1 << child;
            return NOBODY;
        }
    }

    /** A row of items, or nothing (then its size is below 0). */
    private static final class Sheet {
        int lane;
        int size = -1;
        final int[] items = new int[ITEMS];

        boolean isMissing() {
            return size < 0;
        }

        boolean holds(int from, int n) {
            return from >= 0 && n >= 0 && n <= size && from <= size - n;
        }

        /** Why n items from one on can't be taken as a row of a lane; 0: they can. */
        int refusal(int asLane, int from, int n) {
            if (isMissing()) return NULL;
            if (lane != asLane) return CAST;
            return holds(from, n) ? 0 : INDEX;
        }

        void renew(int newLane, int n) {
            Arrays.fill(items, 0);
            lane = newLane;
            size = n;
        }

        void discard() {
            size = -1;
        }

        void put(int i, int v) {
            if (lane == BYTES) items[i] = (byte) v;
            else if (lane == SHORTS) items[i] = (short) v;
            else items[i] = v;
        }
    }
}
