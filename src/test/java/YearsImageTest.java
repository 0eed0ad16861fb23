/** Promises 20, 39 and 40: years by draws, images and the way back. */
public final class YearsImageTest {
    private static final int MOST = 20;

    public static void main(String[] args) {
        withoutField();
        yearsOfOneDraw();
        yearsByDraws();
        yearsRefused();
        images();
        imageAndUndo();
        Check.finish("YearsImageTest");
    }

    private static void withoutField() {
        BuriedGoods x = new BuriedGoods();
        Check.due("years", x.years(1, 1L), -1);
        Check.due("image", x.image(), -1);
        Check.due("back", x.back(), -1);
        Check.status(x, 0, 0, 0, 0, 0);
    }

    /** One plot only, so that each mole comes to the one thing there; the draws are counted out by hand here. */
    private static void yearsOfOneDraw() {
        for (long seed = -40; seed < 40; seed++) {
            long s = seed * 1234567890123L;
            BuriedGoods x = Check.field("sw1h1;t;tp0v99s5", "y:0");
            x.moles(4);
            Check.due("years", x.years(1, s), 1);
            long draw1 = s * 6364136223846793005L + 1442695040888963407L;
            boolean mole = (draw1 >>> 33) % 10 < 4;
            long draw2 = mole ? next(draw1) : draw1;
            long draw3 = next(draw2);
            boolean thief = (draw3 >>> 33) % 10 < 2;
            boolean lost = thief && (next(draw3) >>> 33) % 8 == 1;
            Check.due("seed " + s + ": value", Check.thing(x, 1, 0), mole ? 49 : 99);
            Check.due("seed " + s + ": stake", Check.thing(x, 1, 4), lost ? 0 : 1);
        }
    }

    private static long next(long x) {
        return x * 6364136223846793005L + 1442695040888963407L;
    }

    private static void yearsByDraws() {
        BuriedGoods x = Check.field("sw2h2;tp0v80s5;tp1v60s5;tp2v40s5;tp3v20s5;t;t;t;t", "y:0");
        x.moles(0);
        x.years(MOST, 9L);
        Check.due("no moles, no loss of value", x.most(9), 240);
        x.moles(9);
        Check.due("the month", x.years(MOST, 9L), 40);
        Check.due("moles halve", x.most(9) < 240, true);
        Check.due("all is undone month by month", x.count(9), 40);
        for (int i = 0; i < MOST; i++) {
            x.undo();
        }
        Check.due("as ahead of the moles", x.most(9), 240);
        BuriedGoods y = Check.field("sw2h2;tp0v80s5;tp1v60s5;tp2v40s5;tp3v20s5;t;t;t;t", "y:0");
        y.moles(9);
        y.years(60, 9L);
        BuriedGoods z = Check.field("sw2h2;tp0v80s5;tp1v60s5;tp2v40s5;tp3v20s5;t;t;t;t", "y:0");
        z.moles(9);
        z.years(60, 9L);
        Check.same("the same seed", Check.seen(y), Check.seen(z));
    }

    private static void yearsRefused() {
        BuriedGoods x = Check.field("t");
        String before = Check.seen(x);
        Check.due("years(0)", x.years(0, 1L), -1);
        Check.due("years(61)", x.years(61, 1L), -1);
        Check.due("years(-1)", x.years(-1, 1L), -1);
        Check.same("refused", Check.seen(x), before);
        Check.status(x, 0, 0, 0, 0, 0);
        Check.due("years(60)", x.years(60, Long.MIN_VALUE), 60);
        Check.due("years(60)", x.years(60, Long.MAX_VALUE), 120);
    }

    private static void images() {
        BuriedGoods x = Check.field("sy1k9; tp0m3; tm4");
        Check.due("no image yet", x.back(), -1);
        x.months(2);
        String before = Check.seen(x);
        Check.due("image", x.image(), 2);
        Check.due("an image is no act", x.count(9), 2);
        x.sell(1);
        x.lose(0);
        x.months(3);
        x.seen(0, 0, 1, 1, true);
        x.moles(5);
        Check.due("back", x.back(), 2);
        Check.due("no act can be undone", x.undo(), -1);
        Check.due("seen stays", x.count(7), 1);
        Check.due("moles stay", x.count(6), 5);
        Check.due("coins", x.rule(4), 9);
        Check.due("the thing", Check.thing(x, 1, 3), 4);
        Check.due("the stake", Check.thing(x, 0, 4), 1);
        Check.due("the log", x.count(8), 2);
        x.months(1);
        Check.due("back once more", x.back(), 2);
        x.months(1);
        Check.due("another image", x.image(), 3);
        x.months(1);
        Check.due("back to the latest", x.back(), 3);
        Check.due("it was another state", before.equals(Check.seen(x)), false);
        Check.feed(x, "t");
        x.text(0);
        Check.due("no image of this field", x.back(), -1);
        x.image();
        Check.due("its own", x.back(), 0);
    }

    private static void imageAndUndo() {
        BuriedGoods x = Check.field("tp0");
        x.months(5);
        x.image();
        x.undo();
        x.undo();
        Check.due("back again", x.back(), 5);
        Check.due("the log as kept", x.count(8), 5);
        x.give(1);
        Check.due("acts from then on", x.undo(), 0);
        Check.due("undone to the image", x.count(5), 5);
    }
}
