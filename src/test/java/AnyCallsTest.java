import java.util.NoSuchElementException;
import java.util.Random;

/** Whatever is called with whatever: nothing is thrown but what promise 8 says, and asking changes nothing. */
public final class AnyCallsTest {
    private static final Random random = new Random(41);
    private static final int[] EDGES = {Integer.MIN_VALUE, -1000000, -2, -1, 0, 1, 2, 7, 8, 23, 24, 60, 999, 1000, Integer.MAX_VALUE};

    public static void main(String[] args) {
        for (int run = 0; run < 5000; run++) {
            play(run);
        }
        Check.finish("AnyCallsTest");
    }

    private static int any() {
        int kind = random.nextInt(4);
        return kind == 0 ? EDGES[random.nextInt(EDGES.length)] : kind == 1 ? random.nextInt() : random.nextInt(9);
    }

    private static void play(int run) {
        BuriedGoods x = new BuriedGoods();
        if (run % 5 > 0) {
            Check.feed(x, "sw6h4y3f5k99;rd9;rd0;tp0m2;tp1v99;tp7;tp23s5;tm30;t;t");
            x.text(0);
            Check.feed(x, "y:v>20&!n=1?d-s*[t/n]-m;y:t-4");
            x.text(1);
            x.law(run % 3 - 1);
        }
        int used = 20;
        for (int i = 0; i < 300 && used < 511; i++) {
            int which = random.nextInt(40);
            // What is seen is asked in 66 calls and three for each month logged, twice.
            boolean looks = which >= 16 && i % 20 == 19 && used + 2 * (66 + 3 * x.count(8)) + 2 < 511;
            String before = looks ? Check.seen(x) : null;
            Check.due("run " + run + ", call " + which + " ends well", call(x, which), true);
            if (before != null) {
                Check.same("run " + run + ", call " + which + " changes nothing", Check.seen(x), before);
                used += 2 * (66 + 3 * x.count(8)) + 2;
            }
            used++;
        }
    }

    private static boolean call(BuriedGoods x, int which) {
        try {
            if (which < 16) {
                change(x, which);
            } else {
                ask(x, which);
            }
            return true;
        } catch (NoSuchElementException e) {
            return which == 16;
        } catch (RuntimeException e) {
            e.printStackTrace(System.out);
            return false;
        }
    }

    private static void change(BuriedGoods x, int which) {
        switch (which) {
            case 0: x.feed(any(), any(), any(), any(), any()); break;
            case 1: x.end(any()); break;
            case 2: x.text(any()); break;
            case 3: x.law(any()); break;
            case 4: x.moles(any()); break;
            case 5: x.months(any()); break;
            case 6: x.lay(any(), any()); break;
            case 7: x.takes(any()); break;
            case 8: x.sell(any()); break;
            case 9: x.buy(any(), any()); break;
            case 10: x.lose(any()); break;
            case 11: x.search(any()); break;
            case 12: x.give(any()); break;
            case 13: x.years(any(), random.nextLong()); break;
            case 14: x.undo(); break;
            default: if (random.nextInt(3) == 0) x.back(); else x.seen(any(), any(), any(), any(), random.nextBoolean());
        }
    }

    private static void ask(BuriedGoods x, int which) {
        switch (which) {
            case 16: x.thing(any(), any()); break;
            case 17: x.fault(any()); break;
            case 18: x.rule(any()); break;
            case 19: x.damp(any()); break;
            case 20: x.lies(any()); break;
            case 21: x.status(any()); break;
            case 22: x.log(any(), any()); break;
            case 23: x.grown(any(), any()); break;
            case 24: x.ripeIn(any()); break;
            case 25: x.best(any(), any()); break;
            case 26: x.laying(any(), any()); break;
            case 27: x.way(); break;
            case 28: x.full(); break;
            case 29: x.damps(any(), any()); break;
            case 30: x.ask(any(), any()); break;
            case 31: x.game(any(), any(), any(), any(), any()); break;
            case 32: x.rests(any(), any(), any()); break;
            case 33: x.safe(any(), any(), any()); break;
            case 34: x.odds(any(), any(), any(), any()); break;
            case 35: x.shares(any(), any()); break;
            case 36: x.most(any()); break;
            case 37: x.image(); break;
            case 38: x.count(any()); break;
            default: x.count(random.nextInt(10)); break;
        }
    }
}
