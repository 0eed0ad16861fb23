/** Promises 12 to 19 and 21 to 23: acts by hand, STATUS, undo, the log. */
public final class ActsTest {
    public static void main(String[] args) {
        monthsByTheFirstLaw();
        monthsWithinBounds();
        monthsByLaw();
        lastMonth();
        laying();
        takingUp();
        selling();
        buying();
        losingAndSearching();
        giving();
        status();
        undoing();
        logging();
        Check.finish("ActsTest");
    }

    private static void monthsByTheFirstLaw() {
        // A year of 4 months, frost in months 0 and 1; row 0 is damp.
        BuriedGoods x = Check.field("s w2h2y4f2k5; rd4;rd0; tp0s3v10; tp3s3v10; ts0v10; tp1s4m4v3");
        Check.due("months(1)", x.months(1), 1);
        int[][] after1 = {{12, 2}, {11, 2}, {10, 0}, {2, 6}};
        things("month 1", x, after1);
        Check.due("months(1)", x.months(1), 2);
        int[][] after2 = {{14, 4}, {12, 4}, {10, 0}, {1, 8}};
        things("month 2", x, after2);
        Check.due("which became ripe", x.log(0, 2), 3);
        Check.due("months(1)", x.months(1), 3);
        int[][] after3 = {{13, 5}, {11, 5}, {10, 0}, {0, 9}};
        things("month 3", x, after3);
        Check.due("months(4)", x.months(4), 7);
        int[][] after7 = {{8, 9}, {6, 9}, {10, 0}, {0, 13}};
        things("month 7", x, after7);
        Check.due("the coins are as they were", x.rule(4), 5);
    }

    private static void things(String where, BuriedGoods x, int[][] want) {
        for (int at = 0; at < want.length; at++) {
            Check.due(where + ", value of " + at, Check.thing(x, at, 0), want[at][0]);
            Check.due(where + ", months of " + at, Check.thing(x, at, 3), want[at][1]);
        }
    }

    private static void monthsWithinBounds() {
        BuriedGoods x = Check.field("s y1f0; tp0v99m98; tp1v9m8; tp2v5m9; tp3v50m30");
        x.months(1);
        int[][] want = {{90, 99}, {1, 9}, {0, 10}, {41, 31}};
        things("without a law by the years, 9 at most", x, want);
        x = Check.field("s y2f0; tp0v50m17; tp1v50m19; tp2v50m20; tp3v50m21; tp4v50m22");
        x.months(1);
        want = new int[][] {{42, 18}, {41, 20}, {41, 21}, {41, 22}, {41, 23}};
        things("by whole years, 9 at most", x, want);
        Check.due("the log, too", x.log(0, 0), 42 + 4 * 41);
        BuriedGoods y = Check.field("s y1f0; tp0v90m20");
        y.moles(0);
        y.years(2, 5);
        Check.due("by years, 9 at most", Check.thing(y, 0, 0), 72);
        x = Check.field("s f9; tp0m98; tp1m97; tp2m99", "y:9999*9999");
        x.months(1);
        want = new int[][] {{19, 99}, {19, 99}, {19, 99}};
        things("99 months at most", x, want);
        x.months(21);
        Check.due("200 at most", Check.thing(x, 0, 0), 200);
        x = Check.field("tp0v20;tp5v20", "y:0-m*9999*9999-v");
        x.months(1);
        Check.due("not below 0 less 9", Check.thing(x, 0, 0), 11);
        x.months(2);
        Check.due("0 at least", Check.thing(x, 0, 0), 0);
    }

    private static void monthsByLaw() {
        String land = "s w3h2f1y5k50; rd6;rd1; tp1v20s4m3; tp0v30; tp4v40s1; tp2v50; tv60";
        law(land, "y:v-17", 23, 39, 49, 59, 60);
        law(land, "y:s", 24, 30, 41, 50, 60);
        law(land, "y:d", 26, 36, 41, 56, 60);
        law(land, "y:m", 23, 30, 40, 50, 60);
        law(land, "y:n", 23, 31, 41, 51, 60);
        law(land, "y:t+1", 21, 31, 41, 51, 60);
        law(land, "y:v>35?7;y:v=20?5;y:v<30?8", 25, 30, 47, 57, 60);
        law(land, "y:!v=20&n>0?3;y:2;y:9", 22, 33, 43, 53, 60);
        law(land, "y:v=20|v=50&s=1|v=30?4", 24, 34, 40, 50, 60);
        law(land, "y:!(v=20|v=50)&!!d=6?4", 20, 34, 40, 50, 60);
        law(land, "y:0-v/7", 18, 26, 35, 43, 60);
        law(land, "y:[0-v]/7*2-1+1", 16, 22, 31, 41, 60);
        law(land, "y:5/[v-20]+1", 21, 31, 41, 51, 60);
        law(land, "y:9999*9999-9999*9000+4000/1000", 24, 34, 44, 54, 60);
        law(land, "y:[9999*9999+1]/[500*400]", 25, 35, 45, 55, 60);
        law(land, "y:[0-9999*9999-1]/[500*400]", 15, 25, 35, 45, 60);
        law(land, "y:9999*9999-999*1000-999", 21, 31, 41, 51, 60);
        law(land, "y:0-9999*9999+999*1000+999", 19, 29, 39, 49, 60);
        law(land, "y:12-2*4-3", 21, 31, 41, 51, 60);
        law(land, "y:48/4/3*2", 28, 38, 48, 58, 60);
        BuriedGoods x = Check.field(land, "y:t-9");
        x.months(12);
        int before = (int) Check.thing(x, 3, 0);
        x.months(1);
        Check.due("t goes round", Check.thing(x, 3, 0), Math.max(0, before - 9));
    }

    private static void law(String land, String law, int... values) {
        BuriedGoods x = Check.field(land, law);
        x.months(1);
        for (int at = 0; at < values.length; at++) {
            Check.due(law + ", value of " + at, Check.thing(x, at, 0), values[at]);
        }
    }

    private static void lastMonth() {
        BuriedGoods x = Check.field("tp0");
        Check.due("months(60)", x.months(60), 60);
        Check.due("months(61)", x.months(61), -1);
        Check.due("months(0)", x.months(0), -1);
        for (int i = 2; i <= 16; i++) {
            x.months(60);
        }
        Check.due("month 960", x.count(5), 960);
        String before = Check.seen(x);
        Check.due("40 more", x.months(40), -1);
        Check.due("years, 40 more", x.years(40, 1L), -1);
        Check.same("nothing has gone by", Check.seen(x), before);
        Check.due("39 more by draws", x.years(39, 1L), 999);
        x.undo();
        Check.due("the last one", x.months(1), 999);
        Check.due("one more", x.months(1), -1);
        Check.due("years, one more", x.years(1, 1L), -1);
        Check.status(x, 0, 2, 0, 0, 2);
        Check.due("asked apart months go on", x.grown(0, 1), Math.max(0, Check.thing(x, 0, 0) - 8));
        Check.due("and ripe in", x.ripeIn(0), 0);
    }

    private static void laying() {
        BuriedGoods x = Check.field("s w2h1k2; tp0; tm5; t; t");
        Check.due("lay", x.lay(1, 1), 1);
        Check.due("it has a stake", Check.thing(x, 1, 4), 1);
        Check.due("it lies there", x.lies(1), 1);
        Check.due("how long it lay goes on", Check.thing(x, 1, 3), 5);
        String before = Check.seen(x);
        int[][] calls = {{4, 0}, {-1, 0}, {8, 9}, {2, 2}, {2, -1}, {0, 2}, {2, 0}, {2, 1}, {0, 1}, {0, 0}};
        for (int[] call : calls) {
            Check.due("lay(" + call[0] + ", " + call[1] + ")", x.lay(call[0], call[1]), -1);
        }
        Check.same("refused lays change nothing", Check.seen(x), before);
        Check.status(x, 3, 3, 4, 0, 0);
        x.takes(1);
        Check.due("the last coin", x.lay(2, 1), 0);
        x.takes(2);
        Check.due("no coin", x.lay(2, 1), -1);
        Check.due("taken ahead of no coin", x.lay(2, 0), -1);
        Check.due("no such plot ahead of no coin", x.lay(2, 2), -1);
        Check.status(x, 3, 4, 5, 1, 0);
    }

    private static void takingUp() {
        BuriedGoods x = Check.field("tp5; t; tp7");
        x.lose(2);
        String before = Check.seen(x);
        Check.due("none there", x.takes(3), -1);
        Check.due("no such place", x.takes(-1), -1);
        Check.due("no such place", x.takes(8), -1);
        Check.due("lies nowhere", x.takes(1), -1);
        Check.due("no stake", x.takes(2), -1);
        Check.same("refused takes change nothing", Check.seen(x), before);
        Check.status(x, 3, 0, 1, 1, 0);
        Check.due("taken up, raw", x.takes(0), 5);
        Check.due("free", x.lies(5), -1);
        Check.due("how long it lay stays", Check.thing(x, 0, 3), 0);
        Check.due("again", x.takes(0), -1);
    }

    private static void selling() {
        BuriedGoods x = Check.field("s y6k9; tm6v50; tm5; tp3m99; tp4m7v1");
        String before = Check.seen(x);
        Check.due("raw", x.sell(1), -1);
        Check.due("it lies", x.sell(2), -1);
        Check.due("none there", x.sell(4), -1);
        Check.due("no such place", x.sell(-1), -1);
        Check.same("refused sales change nothing", Check.seen(x), before);
        Check.status(x, 2, 0, 1, 1, 0);
        Check.due("sold", x.sell(0), 50);
        Check.due("coins", x.rule(4), 59);
        Check.due("its place has none", Check.thing(x, 0, 0), Check.THROWN);
        Check.due("again", x.sell(0), -1);
        for (int i = 0; i < 18; i++) {
            x.give(50);
        }
        x.give(39);
        x.takes(3);
        Check.due("coins", x.rule(4), 998);
        Check.due("sold", x.sell(3), 1);
        x.takes(2);
        Check.due("sold beyond 999", x.sell(2), 10);
        Check.due("999 at most", x.rule(4), 999);
    }

    private static void buying() {
        BuriedGoods x = Check.field("s k20; tm9; t");
        String before = Check.seen(x);
        int[][] wrong = {{0, 0}, {31, 0}, {1, -1}, {1, 6}, {-5, 9}};
        for (int[] call : wrong) {
            Check.due("buy(" + call[0] + ", " + call[1] + ")", x.buy(call[0], call[1]), -1);
        }
        Check.same("refused", Check.seen(x), before);
        Check.due("buy(30, 5)", x.buy(30, 5), 2);
        Check.due("half as many", x.rule(4), 5);
        int[] want = {30, 5, -1, 0, 0};
        for (int what = 0; what < 5; what++) {
            Check.due("bought " + what, Check.thing(x, 2, what), want[what]);
        }
        Check.due("too few coins", x.buy(11, 0), -1);
        Check.due("buy(1, 0)", x.buy(1, 0), 3);
        Check.due("cut up", x.rule(4), 4);
        x.months(1);
        x.lay(0, 0);
        x.months(1);
        x.takes(0);
        x.months(1);
        Check.due("buy(5, 1)", x.buy(5, 1), 4);
        Check.due("no coins", x.rule(4), 0);
        Check.due("buy without coins", x.buy(1, 0), -1);
        x.give(50);
        x.buy(1, 0);
        x.buy(1, 0);
        Check.due("the eighth", x.buy(2, 0), 7);
        Check.due("no place", x.buy(2, 0), -1);
        Check.due("out of bounds ahead of no place", x.buy(0, 0), -1);
        Check.status(x, 0, 6, 0, 3, 0);
        theLowestPlace();
    }

    private static void theLowestPlace() {
        BuriedGoods x = Check.field("s y1; tm1s5p3; tm1; tm1");
        x.sell(1);
        Check.due("the lowest with none", x.buy(7, 2), 1);
        x.takes(0);
        x.sell(0);
        Check.due("the lowest with none", x.buy(8, 0), 0);
        Check.due("as bought", Check.thing(x, 0, 1), 0);
        Check.due("it lay 0 months", Check.thing(x, 0, 3), 0);
        Check.due("then the fourth", x.buy(8, 0), 3);
    }

    private static void losingAndSearching() {
        BuriedGoods x = Check.field("s w3h1k2; tp2m99; t");
        String before = Check.seen(x);
        Check.due("none there", x.lose(2), -1);
        Check.due("lies nowhere", x.lose(1), -1);
        Check.due("no such plot", x.search(3), -1000000);
        Check.due("no such plot", x.search(-1), -1000000);
        Check.same("refused", Check.seen(x), before);
        Check.due("lost", x.lose(0), 2);
        Check.due("lost for nothing", x.rule(4), 2);
        Check.due("lost again", x.lose(0), -1);
        Check.status(x, 1, 2, 1, 1, 0);
        Check.due("searched where none lies", x.search(1), -1);
        Check.due("the coin is gone", x.rule(4), 1);
        Check.due("it is an act", x.count(9), 2);
        Check.due("found", x.search(2), 0);
        Check.due("a stake again", Check.thing(x, 0, 4), 1);
        Check.due("the coin is gone", x.rule(4), 0);
        Check.due("no coin", x.search(2), -1000000);
        Check.due("no such plot ahead of no coin", x.search(3), -1000000);
        Check.status(x, 1, 3, 1, 2, 0);
        x.give(1);
        Check.due("searched where a stake is", x.search(2), -1);
        Check.due("the coin is gone", x.rule(4), 0);
        x.takes(0);
        x.give(3);
        x.lay(0, 2);
        Check.due("laid again with a stake", Check.thing(x, 0, 4), 1);
    }

    private static void giving() {
        BuriedGoods x = Check.field("sk0");
        Check.due("give(1)", x.give(1), 1);
        Check.due("give(50)", x.give(50), 51);
        String before = Check.seen(x);
        Check.due("give(0)", x.give(0), -1);
        Check.due("give(51)", x.give(51), -1);
        Check.due("give(-1)", x.give(-1), -1);
        Check.same("refused", Check.seen(x), before);
        for (int i = 0; i < 18; i++) {
            x.give(50);
        }
        Check.due("coins", x.rule(4), 951);
        Check.due("above 999", x.give(49), -1);
        Check.due("999", x.give(48), 999);
        Check.due("above 999", x.give(1), -1);
        Check.status(x, 0, 3, 0, 2, 0);
    }

    private static void status() {
        BuriedGoods x = new BuriedGoods();
        x.months(0);
        x.lay(0, 99);
        x.takes(0);
        x.sell(0);
        x.buy(0, 0);
        x.lose(0);
        Check.due("search", x.search(0), -1000000);
        x.give(0);
        Check.status(x, 8, 0, 0, 0, 0);
        x.years(0, 0L);
        x.undo();
        x.image();
        x.back();
        x.grown(0, -1);
        Check.status(x, 8, 0, 0, 0, 0);
        Check.due("status(-1)", x.status(-1), -1);
        Check.due("status(5)", x.status(5), -1);
        Check.feed(x, "sk1;t");
        x.text(0);
        x.give(1);
        x.months(61);
        x.undo();
        Check.status(x, 8, 1, 0, 0, 0);
    }

    private static void undoing() {
        BuriedGoods x = Check.field("s y2k9; tp0; tm2v7; tp1");
        Check.due("nothing to undo", x.undo(), -1);
        String[] before = new String[9];
        for (int i = 0; i < 9; i++) {
            before[i] = Check.standing(x) + Check.thing(x, 1, 2) + " " + Check.thing(x, 1, 4);
            switch (i) {
                case 0: x.months(1); break;
                case 1: x.lay(1, 5); break;
                case 2: x.takes(1); break;
                case 3: x.sell(1); break;
                case 4: x.buy(3, 1); break;
                case 5: x.lose(0); break;
                case 6: x.search(0); break;
                case 7: x.give(5); break;
                default: x.years(1, 77L); break;
            }
            Check.due("acts", x.count(9), i + 1);
        }
        for (int i = 8; i >= 0; i--) {
            Check.due("undo", x.undo(), i);
            Check.same("undone " + i, Check.standing(x) + Check.thing(x, 1, 2) + " " + Check.thing(x, 1, 4), before[i]);
        }
        Check.due("nothing to undo", x.undo(), -1);
        fortyAtMost();
    }

    private static void fortyAtMost() {
        BuriedGoods x = Check.field("tp0v50");
        x.months(60);
        x.months(10);
        Check.due("forty acts", x.count(9), 40);
        Check.due("the log is full", x.count(8), 60);
        for (int i = 39; i >= 0; i--) {
            Check.due("undo", x.undo(), i);
        }
        Check.due("undo", x.undo(), -1);
        Check.due("month 30", x.count(5), 30);
        BuriedGoods y = Check.field("tp0v50");
        y.months(30);
        for (int i = 0; i < 60; i++) {
            for (int what = 0; what < 3; what++) {
                Check.due("log(" + i + ", " + what + ")", x.log(i, what), y.log(i, what));
            }
        }
        Check.due("the log is undone", x.count(8), 30);
        x.months(1);
        x.years(60, 5L);
        Check.due("forty acts", x.count(9), 40);
        Check.due("undo", x.undo(), 39);
        Check.due("a month of the years", x.count(5), 90);
    }

    private static void logging() {
        BuriedGoods x = Check.field("s y3f0; rd9; tp0v10m1; tp1v20m2; tv90m9");
        Check.due("no log", x.log(0, 0), -1);
        x.months(2);
        int[][] want = {{35, 2, 1}, {34, 2, 2}};
        for (int i = 0; i < 2; i++) {
            for (int what = 0; what < 3; what++) {
                Check.due("log(" + i + ", " + what + ")", x.log(i, what), want[i][what]);
            }
        }
        int[][] wrong = {{2, 0}, {-1, 0}, {0, 3}, {0, -1}, {60, 0}};
        for (int[] call : wrong) {
            Check.due("log(" + call[0] + ", " + call[1] + ")", x.log(call[0], call[1]), -1);
        }
        x.takes(0);
        x.takes(1);
        x.months(58);
        Check.due("log of nothing", x.log(0, 1), 0);
        Check.due("the first still", x.log(59, 2), 2);
        x.months(1);
        Check.due("the latest sixty", x.count(8), 60);
        Check.due("the first is gone", x.log(59, 2), 1);
        Check.due("log(60)", x.log(60, 0), -1);
    }
}
