import java.lang.management.ManagementFactory;

/** A run's calls make nothing: all rows are made with the object, and these are few. */
public final class RoomTest {
    private static final int SMALL = 4096;

    public static void main(String[] args) {
        var threads = (com.sun.management.ThreadMXBean) ManagementFactory.getThreadMXBean();
        long[] words = {Check.word("pabcd,p,"), Check.word("h,l,w,p "), Check.word("0>1a;1>2"), Check.word("a,0>3b  ")};
        TaughtHours x = new TaughtHours();
        calls(x, words);
        long before = threads.getCurrentThreadAllocatedBytes();
        x = new TaughtHours();
        long made = threads.getCurrentThreadAllocatedBytes() - before;
        Check.holds("an object takes " + made + " bytes", made < 32768);
        before = threads.getCurrentThreadAllocatedBytes();
        for (int i = 0; i < 16; i++) calls(x, words);
        made = threads.getCurrentThreadAllocatedBytes() - before;
        Check.holds("calls take " + made + " bytes", made < SMALL);
        Check.end();
    }

    /** Each method once at the least. */
    private static void calls(TaughtHours x, long[] words) {
        x.type(words[0], 8);
        x.type(words[1], 8);
        x.school();
        x.type(words[2], 8);
        x.type(words[3], 8);
        x.plan();
        x.child(0);
        x.know(1, 3, 9);
        x.need(2, 1);
        x.hears(1, 2, false);
        x.told(1, 2);
        x.passes(1, 2);
        x.count(4);
        x.may(0, 1, 2);
        x.image();
        x.spared();
        for (int set = 0; set < 16; set++) {
            x.hours(set);
            x.bound(set);
            x.order(set, 1);
        }
        x.teach(0, 2, 0);
        x.run();
        x.lessons(60);
        x.mouths(0, 0);
        x.mouths(0, 1);
        x.from(0, 0);
        x.restore();
        x.seed(1);
        x.sheet(0, 0, 24);
        x.sheet(1, 0, 24);
        x.item(0, 0, 1, 1);
        x.hour(0, 0, 0, 1);
        x.film(0, 0, 0, 0);
        x.copy(0, 0, 1, 0, 24);
        x.drop(0);
    }
}
