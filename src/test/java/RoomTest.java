import java.lang.management.ManagementFactory;

/** All calls of a run share one room (7.3 million fields and elements): an object and its dearest calls take a part of it. */
public final class RoomTest {
    private static final com.sun.management.ThreadMXBean ROOM =
        (com.sun.management.ThreadMXBean) ManagementFactory.getThreadMXBean();

    public static void main(String[] args) {
        used();
        dearestCalls(new BuriedGoods());
        long ahead = used();
        BuriedGoods x = new BuriedGoods();
        long made = used() - ahead;
        Check.due("a new object makes " + made + " bytes, few enough", made < 1000000, true);
        ahead = used();
        dearestCalls(x);
        long more = used() - ahead;
        Check.due("the calls make " + more + " bytes, few enough", more < 8000000, true);
        Check.finish("RoomTest");
    }

    private static long used() {
        return ROOM.getThreadAllocatedBytes(Thread.currentThread().getId());
    }

    private static void dearestCalls(BuriedGoods x) {
        Check.feed(x, "sw6h4y1f0k99;rd9;rd7;rd5;rd3;tm9;tm9;tm9;tm9;tm9;tm9;tp5m9;tp7m9");
        x.text(0);
        Check.feed(x, "y:v+v*v-v/v+v*v-v/v+v*v-v/v+v*v-v/v+v*v-v/v+v*v-v/v+v*v-v/v+v*v-v/v+v*v-v/v+v*v-v/v+d");
        x.text(1);
        x.law(0);
        for (int i = 0; i < 10; i++) {
            x.seen(i % 8, 0, 24, 0, true);
        }
        for (int i = 0; i < 38; i++) {
            x.laying(24, i % 2);
            x.way();
            x.odds(6, 6, 9, 50);
            x.ask(0, 0);
            x.damps(0, -1);
            x.best(6, 0);
            x.grown(7, 99);
            x.years(13, i);
            x.undo();
            x.image();
            x.back();
            x.fault(1);
        }
    }
}
