import java.util.ArrayList;
import java.util.List;

/** The bounds that Terms 4 names (promises 11, 20, 39, 40): draws by any seed, moles at their most and least, images. */
public final class EdgeYearsTest {
    private static final long[] SEEDS = {Long.MIN_VALUE, Long.MIN_VALUE + 1, -1L << 33, -1L, 0L, 1L, 2L, 1L << 31, 1L << 33,
        Long.MAX_VALUE - 1, Long.MAX_VALUE, 6364136223846793005L, -1442695040888963407L};

    public static void main(String[] args) {
        drawsAtTheEndsOfLong();
        drawsByEverySize();
        molesAtTheirMostAndLeast();
        plotsThatAreDrawn();
        placesThatAreDrawn();
        aheadOfEachMonth();
        seedsStartAgain();
        oneActEach();
        howManyMonths();
        imageKeeps();
        imageKeepsNoMore();
        imageOfAFullLog();
        imageInsteadOfOneAhead();
        backTwice();
        backAndUndo();
        Check.finish("EdgeYearsTest");
    }

    /** The draws as the document tells them, one after the other. */
    private static final class Draws {
        private long x;

        Draws(long seed) {
            x = seed;
        }

        int of(int j) {
            x = x * 6364136223846793005L + 1442695040888963407L;
            return (int) ((x >>> 33) % j);
        }
    }

    private static final String LAND = "s w3h3;tp0v96s5;tp4v95s5;tp8v94s5;t v93;tp2v92;tp6v91;tp7v90";
    private static final int[] PLOTS = {0, 4, 8, -1, 2, 6, 7};

    /** Values and stakes behind some months under a law by which nothing grows, told by the draws. */
    private static void byDraws(String what, int moles, int n, long seed) {
        BuriedGoods x = Check.field(LAND, "y:0");
        x.moles(moles);
        int[] values = {96, 95, 94, 93, 92, 91, 90};
        boolean[] stakes = {true, true, true, false, true, true, true};
        Draws draws = new Draws(seed);
        for (int i = 0; i < n; i++) {
            if (draws.of(10) < moles) {
                int plot = draws.of(9);
                for (int at = 0; at < 7; at++) {
                    values[at] = PLOTS[at] == plot ? values[at] / 2 : values[at];
                }
            }
            if (draws.of(10) < 2) {
                int at = draws.of(8);
                if (at < 7) {
                    stakes[at] = false;
                }
            }
        }
        Check.due(what, x.years(n, seed), n);
        for (int at = 0; at < 7; at++) {
            Check.due(what + ": value of " + at, x.thing(at, 0), values[at]);
            Check.due(what + ": stake of " + at, x.thing(at, 4), stakes[at] ? 1 : 0);
        }
    }

    private static void drawsAtTheEndsOfLong() {
        for (long seed : SEEDS) {
            for (int moles = 0; moles <= 9; moles++) {
                for (int n : new int[] {1, 2, 13, 60}) {
                    byDraws("moles " + moles + ", seed " + seed + ", months " + n, moles, n, seed);
                }
            }
        }
    }

    private static void drawsByEverySize() {
        for (int wide = 1; wide <= 6; wide++) {
            for (int rows = 1; rows <= 4; rows++) {
                int plots = wide * rows;
                BuriedGoods x = Check.field("sw" + wide + "h" + rows + ";tv64p" + (plots - 1), "y:0");
                x.moles(9);
                Draws draws = new Draws(plots);
                int value = 64;
                boolean stake = true;
                for (int i = 0; i < 25; i++) {
                    value = draws.of(10) < 9 && draws.of(plots) == plots - 1 ? value / 2 : value;
                    stake &= !(draws.of(10) < 2 && draws.of(8) == 0);
                }
                x.years(25, plots);
                Check.due("value by " + plots + " plots", x.thing(0, 0), value);
                Check.due("stake by " + plots + " plots", x.thing(0, 4), stake ? 1 : 0);
            }
        }
    }

    private static void molesAtTheirMostAndLeast() {
        BuriedGoods x = new BuriedGoods();
        Check.due("three at first", x.count(6), 3);
        Check.due("it is so", x.moles(3), false);
        for (int v = 0; v <= 9; v++) {
            Check.due("moles(" + v + ")", x.moles(v), true);
            Check.due("count", x.count(6), v);
            Check.due("moles(" + v + ") again", x.moles(v), false);
        }
        Check.due("moles(10)", x.moles(10), false);
        Check.due("moles(-1)", x.moles(-1), false);
        Check.due("nine still", x.count(6), 9);
        BuriedGoods none = Check.field("sw1h1;tp0v99", "y:0");
        none.moles(0);
        none.years(60, 4L);
        Check.due("no mole comes", none.thing(0, 0), 99);
        for (long seed = 0; seed < 30; seed++) {
            BuriedGoods atFirst = Check.field("sw1h1;tp0v99", "y:0");
            atFirst.years(1, seed);
            Check.due("three as at first, seed " + seed, atFirst.thing(0, 0), new Draws(seed).of(10) < 3 ? 49 : 99);
        }
    }

    /** A mole in a plot without a thing halves nothing; a thing that lies nowhere is safe. */
    private static void plotsThatAreDrawn() {
        BuriedGoods x = Check.field("sw6h4;t v99;t v98", "y:0");
        x.moles(9);
        x.years(60, 1L);
        Check.due("safe above the ground", x.thing(0, 0), 99);
        Check.due("safe above the ground", x.thing(1, 0), 98);
        BuriedGoods one = Check.field("sw1h1;tv99;tp0v99;tv99", "y:0");
        one.moles(9);
        one.years(60, 2L);
        Check.due("halved till nothing is left", one.thing(1, 0), 0);
        Check.due("the others are safe", one.thing(0, 0) + one.thing(2, 0), 198);
    }

    /** A place with none, or one that lies nowhere, or has no stake, loses nothing. */
    private static void placesThatAreDrawn() {
        BuriedGoods x = Check.field("sw6h4;t;tp3;t;t", "y:0");
        x.moles(0);
        x.years(60, 11L);
        Draws draws = new Draws(11L);
        boolean lost = false;
        for (int i = 0; i < 60; i++) {
            draws.of(10);
            lost |= draws.of(10) < 2 && draws.of(8) == 1;
        }
        Check.due("its stake", x.thing(1, 4), lost ? 0 : 1);
        Check.due("lost only where it lies", x.most(7), lost ? 2 : 0);
        Check.status(x, 0, 0, 0, 0, 0);
        x.lay(0, 5);
        Check.due("laid with a stake", x.thing(0, 4), 1);
    }

    /** What is ahead of a month is a part of it: the law sees the value halved. */
    private static void aheadOfEachMonth() {
        for (long seed = 0; seed < 40; seed++) {
            BuriedGoods x = Check.field("sw1h1y1f0;tp0v80", "y:v/10");
            x.moles(5);
            Draws draws = new Draws(seed);
            int value = 80;
            for (int i = 0; i < 4; i++) {
                value = draws.of(10) < 5 && draws.of(1) == 0 ? value / 2 : value;
                value += Math.min(9, value / 10);
                if (draws.of(10) < 2) {
                    draws.of(8);
                }
            }
            x.years(4, seed);
            Check.due("value by seed " + seed, x.thing(0, 0), value);
            Check.due("log by seed " + seed, x.log(0, 0), value);
            Check.due("it lay", x.thing(0, 3), 4);
            Check.due("became ripe in the first", x.log(3, 2), 1);
            Check.due("only then", x.log(2, 2) + x.log(1, 2) + x.log(0, 2), 0);
        }
    }

    private static void seedsStartAgain() {
        for (long seed : SEEDS) {
            BuriedGoods x = Check.field(LAND, "y:1");
            x.years(5, 77L);
            x.undo();
            x.undo();
            x.undo();
            x.undo();
            x.undo();
            x.years(9, seed);
            BuriedGoods y = Check.field(LAND, "y:1");
            y.years(9, seed);
            Check.same("nothing is left of the draws ahead, seed " + seed, Check.seen(x), Check.seen(y));
        }
    }

    private static void oneActEach() {
        BuriedGoods x = Check.field("sw1h1;tp0v99", "y:0");
        x.moles(9);
        int[] values = new int[9];
        Draws draws = new Draws(3L);
        values[0] = 99;
        for (int i = 1; i <= 8; i++) {
            values[i] = draws.of(10) < 9 && draws.of(1) == 0 ? values[i - 1] / 2 : values[i - 1];
            if (draws.of(10) < 2) {
                draws.of(8);
            }
        }
        x.years(8, 3L);
        for (int i = 8; i > 0; i--) {
            Check.due("value behind " + i, x.thing(0, 0), values[i]);
            Check.due("undo", x.undo(), i - 1);
        }
        Check.due("the mole is undone, too", x.thing(0, 0), 99);
        Check.due("month 0", x.count(5), 0);
        Check.due("none", x.undo(), -1);
    }

    private static void howManyMonths() {
        BuriedGoods x = Check.field("tp0");
        Check.due("years(1)", x.years(1, 1L), 1);
        Check.due("years(60)", x.years(60, 1L), 61);
        Check.due("years(61)", x.years(61, 1L), -1);
        Check.due("years(0)", x.years(0, 1L), -1);
        Check.due("log", x.count(8), 60);
        Check.due("acts", x.count(9), 40);
        for (int month = 121; month <= 961; month += 60) {
            Check.due("years(60)", x.years(60, month), month);
        }
        Check.due("years(39)", x.years(39, 1L), -1);
        Check.due("years(38)", x.years(38, 1L), 999);
        Check.due("years(1)", x.years(1, 1L), -1);
        Check.status(x, 0, 0, 0, 0, 0);
        BuriedGoods empty = Check.field("r");
        Check.due("without things", empty.years(60, Long.MIN_VALUE), 60);
        Check.due("without things", empty.log(59, 0), 0);
    }

    private static BuriedGoods grownUp() {
        BuriedGoods x = Check.field("s y2f0k9w3h1;tp0v20;tm2v7;tp2v30", "y:1");
        x.months(2);
        x.lose(2);
        return x;
    }

    private static void imageKeeps() {
        BuriedGoods x = grownUp();
        Check.due("image", x.image(), 2);
        x.takes(0);
        x.sell(0);
        x.sell(1);
        x.buy(1, 5);
        x.lay(0, 1);
        x.search(2);
        x.give(5);
        x.years(7, 3L);
        Check.due("back", x.back(), 2);
        BuriedGoods y = grownUp();
        y.image();
        y.back();
        Check.same("all as it was", Check.seen(x), Check.seen(y));
        Check.due("no act", x.count(9), 0);
        Check.due("none can be undone", x.undo(), -1);
        Check.same("it goes on as it did", Check.onward(x), Check.onward(y));
    }

    /** The tape, seen ones, laws, which holds, moles and STATUS are none of an image's. */
    private static void imageKeepsNoMore() {
        BuriedGoods x = grownUp();
        Check.feed(x, "t;t");
        x.seen(0, 0, 1, 1, true);
        x.image();
        Check.law(x, "y:2");
        x.law(1);
        x.moles(8);
        x.seen(0, 0, 2, 2, true);
        x.months(0);
        Check.feed(x, "abc");
        x.back();
        int[] counts = {3, 3, 2, 3, 1, 2, 8, 2, 2, 0};
        for (int what = 0; what < 10; what++) {
            Check.due("count(" + what + ")", x.count(what), counts[what]);
        }
        Check.status(x, 0, 1, 0, 0, 0);
        x.law(-1);
        x.moles(1);
        x.end(0);
        Check.due("back", x.back(), 2);
        Check.due("none holds", x.count(4), -1);
        Check.due("moles", x.count(6), 1);
        Check.due("the tape", x.count(3), 0);
    }

    private static void imageOfAFullLog() {
        BuriedGoods x = Check.field("tp0v1", "y:1");
        x.months(60);
        x.months(5);
        Check.due("image", x.image(), 65);
        x.months(30);
        Check.due("the log has gone on", x.log(0, 0), 96);
        x.back();
        Check.due("sixty", x.count(8), 60);
        for (int i = 0; i < 60; i++) {
            Check.due("log(" + i + ")", x.log(i, 0), 66 - i);
        }
        x.months(1);
        Check.due("the latest", x.log(0, 0), 67);
        Check.due("the sixtieth", x.log(59, 0), 8);
        Check.due("one act", x.undo(), 0);
        Check.due("the sixtieth", x.log(59, 0), 7);
    }

    private static void imageInsteadOfOneAhead() {
        BuriedGoods x = Check.field("tp0v50", "y:1");
        Check.due("at month 0", x.image(), 0);
        x.months(3);
        Check.due("back to 0", x.back(), 0);
        x.months(4);
        Check.due("at month 4", x.image(), 4);
        x.months(4);
        Check.due("back to 4", x.back(), 4);
        Check.due("value", x.thing(0, 0), 54);
        Check.due("and again", x.back(), 4);
        Check.due("the same again", x.image(), 4);
        Check.feed(x, "t");
        x.text(0);
        Check.due("another field has none", x.back(), -1);
        Check.feed(x, "x");
        Check.due("its own", x.image(), 0);
        Check.due("no text", x.text(0), -1);
        Check.due("its own stays", x.back(), 0);
    }

    private static void backTwice() {
        BuriedGoods x = grownUp();
        x.image();
        for (int i = 0; i < 3; i++) {
            x.months(9);
            x.give(9);
            x.lose(0);
            Check.due("back", x.back(), 2);
            Check.due("coins", x.rule(4), 9);
            Check.due("value", x.thing(0, 0), 22);
            Check.due("stakes", x.most(7), 4);
            Check.due("acts", x.count(9), 0);
        }
    }

    private static void backAndUndo() {
        BuriedGoods x = Check.field("tp0v50", "y:1");
        x.months(45);
        x.image();
        for (int i = 39; i >= 20; i--) {
            Check.due("undo", x.undo(), i);
        }
        Check.due("month 25", x.count(5), 25);
        Check.due("back", x.back(), 45);
        Check.due("no act", x.undo(), -1);
        x.months(45);
        for (int i = 39; i >= 0; i--) {
            Check.due("undo", x.undo(), i);
        }
        Check.due("forty of them", x.count(5), 50);
        Check.due("no more", x.undo(), -1);
        List<Integer> values = new ArrayList<>();
        for (int i = 0; i < 50; i++) {
            values.add(x.log(i, 0));
        }
        Check.due("the log from the first on", values.get(49), 51);
        Check.due("the log to the latest", values.get(0), 100);
    }
}
