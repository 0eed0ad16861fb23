/** The bounds that Terms 3 names for games, odds, shares and what is most, and the counts (promises 33 to 38, 41). */
public final class EdgeGamesTest {
    public static void main(String[] args) {
        gameByEveryValue();
        gameOfWhatMayPlay();
        restsNever();
        safeByEveryValue();
        safeAtTheEnds();
        oddsAtTheBounds();
        oddsPartByPart();
        oddsOfAMonth();
        oddsOfOneAmongOthers();
        sharesAtTheBounds();
        sharesCut();
        dearestAndOldest();
        richestRow();
        dampestRow();
        bits();
        freePlots();
        allTogether();
        lawful();
        besideOneAnother();
        countsFromNoneToAll();
        Check.finish("EdgeGamesTest");
    }

    /** A field of two things with any values from 0 to 200: the first law makes them so. */
    private static BuriedGoods worth(int first, int second) {
        BuriedGoods x = Check.field("sy24w6h1;tp0s1v" + start(first) + ";tp2s2v" + start(second), "y:s=1?" + step(first) + ";y:" + step(second));
        Check.law(x, "y:0");
        for (int i = 0; i < 13 && (x.thing(0, 0) != first || x.thing(1, 0) != second); i++) {
            x.months(1);
        }
        Check.due("worth", x.thing(0, 0), first);
        Check.due("worth", x.thing(1, 0), second);
        return x;
    }

    private static int start(int value) {
        return Math.max(1, Math.min(99, value));
    }

    private static String step(int value) {
        return value > 99 ? "[" + value + "-v]" : value < 1 ? "0-1" : "0";
    }

    private static void gameByEveryValue() {
        int[][] values = {{0, 0}, {0, 200}, {200, 0}, {200, 200}, {1, 99}, {5, 5}, {4, 6}, {100, 101}};
        for (int[] v : values) {
            BuriedGoods x = worth(v[0], v[1]);
            for (int guard = 0; guard < 2; guard++) {
                for (int dig = 0; dig < 2; dig++) {
                    int merchant = (guard == dig ? 5 : -v[dig]) - guard;
                    int thief = guard == dig ? -5 : v[dig];
                    String what = "of " + v[0] + " and " + v[1] + ", guarded " + guard + ", dug for " + dig;
                    Check.due("the merchant, " + what, x.game(0, 1, guard, dig, 0), merchant);
                    Check.due("the thief, " + what, x.game(0, 1, guard, dig, 1), thief);
                    int[] turned = {v[1], v[0]};
                    merchant = (guard == dig ? 5 : -turned[dig]) - guard;
                    Check.due("the merchant, the other way, " + what, x.game(1, 0, guard, dig, 0), merchant);
                    Check.due("the thief, the other way, " + what, x.game(1, 0, guard, dig, 1), guard == dig ? -5 : turned[dig]);
                }
            }
        }
    }

    private static void gameOfWhatMayPlay() {
        BuriedGoods x = Check.field("tp0v9;tp3v8m99;tv7;tp5v6;tp6;tp7;tp8;tp9v5");
        x.lose(0);
        Check.due("without a stake", x.game(0, 1, 1, 0, 1), 9);
        Check.due("the last place", x.game(7, 0, 1, 0, 1), 5);
        Check.due("ripe or raw", x.game(1, 3, 0, 1, 0), -6);
        int[][] none = {{2, 0}, {0, 2}, {0, 0}, {7, 8}, {-1, 0}};
        for (int[] pair : none) {
            Check.due("no game", x.game(pair[0], pair[1], 0, 0, 0), -1000000);
            Check.due("no rests", x.rests(pair[0], pair[1], -1), -1);
            Check.due("not safe", x.safe(pair[0], pair[1], 0), -1000000);
        }
        x.takes(1);
        Check.due("taken up", x.game(0, 1, 0, 0, 0), -1000000);
        x.lay(2, 11);
        Check.due("laid", x.game(2, 0, 1, 0, 1), 7);
    }

    private static void restsNever() {
        int[][] values = {{0, 0}, {0, 200}, {200, 0}, {200, 200}, {1, 1}, {5, 4}};
        for (int[] v : values) {
            BuriedGoods x = worth(v[0], v[1]);
            Check.due("rests of " + v[0] + " and " + v[1], x.rests(0, 1, -1), 0);
            Check.due("rests the other way", x.rests(1, 0, -1), 0);
            for (int i = 0; i < 5; i++) {
                Check.due("no such rest", x.rests(0, 1, i), -1);
            }
            Check.due("i -2", x.rests(0, 1, -2), -1);
        }
    }

    private static void safeOf(BuriedGoods x, int one, int other) {
        int a = x.thing(one, 0);
        int b = x.thing(other, 0);
        int best = 0;
        int least = Integer.MAX_VALUE;
        for (int g = 0; g <= 100; g++) {
            int greater = Math.max(g * -5 + (100 - g) * a, g * b + (100 - g) * -5);
            if (greater < least) {
                least = greater;
                best = g;
            }
        }
        String what = "of " + a + " and " + b;
        Check.due("how often the first " + what, x.safe(one, other, 0), best);
        Check.due("what it comes to " + what, x.safe(one, other, 1), least);
    }

    private static void safeByEveryValue() {
        BuriedGoods[] fields = {Check.field("sw6h2;tp0v1;tp1v2;tp2v3;tp3v5;tp4v8;tp5v13;tp6v21;tp7v99"),
            Check.field("sw6h2;tp0v10;tp1v20;tp2v30;tp3v45;tp4v60;tp5v75;tp6v90;tp7v98")};
        for (BuriedGoods x : fields) {
            for (int one = 0; one < 8; one++) {
                for (int other = 0; other < 8; other += one < 4 ? 1 : 7) {
                    if (one != other) {
                        safeOf(x, one, other);
                    }
                }
            }
        }
    }

    private static void safeAtTheEnds() {
        int[][] values = {{0, 0}, {0, 200}, {200, 0}, {200, 200}, {1, 200}, {200, 1}, {0, 1}, {1, 0}, {100, 0}};
        for (int[] v : values) {
            BuriedGoods x = worth(v[0], v[1]);
            safeOf(x, 0, 1);
            safeOf(x, 1, 0);
        }
        BuriedGoods even = Check.field("tp0v1;tp1v90");
        Check.due("five and six come to the same: the least", even.safe(0, 1, 0), 5);
        safeOf(even, 0, 1);
        BuriedGoods x = worth(200, 0);
        Check.due("nearly always the first", x.safe(0, 1, 0), 98);
        Check.due("and what it comes to", x.safe(0, 1, 1), -10);
        Check.due("nearly never the first", x.safe(1, 0, 0), 2);
        Check.due("and what it comes to", x.safe(1, 0, 1), -10);
    }

    private static void oddsAtTheBounds() {
        BuriedGoods x = Check.field("s y24f0;tp0v99;tp2v1", "y:9");
        for (int n = 0; n <= 6; n++) {
            Check.due("sure by v 0", x.odds(0, n, 0, 100), 1000000000);
            Check.due("sure without a mole", x.odds(0, n, 99 + 9 * n, 0), 1000000000);
            Check.due("never more without a mole", x.odds(0, n, 100 + 9 * n, 0), 0);
        }
        Check.due("seven months", x.odds(0, 7, 0, 0), -1);
        Check.due("v 200", x.odds(0, 6, 200, 0), 0);
        Check.due("v 201", x.odds(0, 6, 201, 0), -1);
        Check.due("a chance of 101", x.odds(0, 0, 0, 101), -1);
        Check.due("no months: as it is", x.odds(0, 0, 99, 50), 1000000000);
        Check.due("no months: not more", x.odds(0, 0, 100, 50), 0);
        x.months(12);
        Check.due("200 just so", x.odds(0, 0, 200, 100), 1000000000);
        Check.due("200 at most", x.odds(0, 6, 200, 0), 1000000000);
        Check.due("100 and 9 behind a mole", x.odds(0, 1, 109, 100), 1000000000);
        Check.due("no more behind a mole", x.odds(0, 1, 110, 100), 0);
        BuriedGoods one = Check.field("s y24f0;tp0v1", "y:0");
        Check.due("half of 1 is cut to 0", one.odds(0, 1, 1, 100), 0);
        Check.due("0 or more", one.odds(0, 1, 0, 100), 1000000000);
        Check.due("a chance of 1", one.odds(0, 1, 1, 1), 990000000);
        Check.due("a chance of 99", one.odds(0, 1, 1, 99), 10000000);
        Check.due("twice a chance of 99", one.odds(0, 2, 1, 99), 100000);
        Check.due("six times a chance of 1", one.odds(0, 6, 1, 1), remains(1, 6));
    }

    private static long remains(int chance, int n) {
        long parts = 1000000000;
        for (int i = 0; i < n; i++) {
            parts -= parts * chance / 100;
        }
        return parts;
    }

    /** Each part in two: chance 100ths of it, cut, with a mole. */
    private static long reached(int value, int n, int v, int chance, long parts) {
        if (n == 0) {
            return value >= v ? parts : 0;
        }
        long mole = parts * chance / 100;
        return reached(value / 2 + 3, n - 1, v, chance, mole) + reached(value + 3, n - 1, v, chance, parts - mole);
    }

    private static void oddsPartByPart() {
        for (int chance : new int[] {0, 1, 7, 33, 50, 66, 93, 99, 100}) {
            BuriedGoods x = Check.field("s y24f0;tp0v97", "y:3");
            for (int n = 0; n <= 6; n++) {
                for (int v = 0; v <= 120; v += 17) {
                    Check.due("odds of " + v + " behind " + n + " by " + chance, x.odds(0, n, v, chance),
                        reached(97, n, v, chance, 1000000000L));
                }
            }
        }
    }

    /** The mole comes ahead of the month, and the law sees what it left. */
    private static void oddsOfAMonth() {
        BuriedGoods x = Check.field("s y24f0;tp0v80m3", "y:v/10+m-3+t");
        Check.due("without", x.odds(0, 1, 88, 100), 0);
        Check.due("40 and 4", x.odds(0, 1, 44, 100), 1000000000);
        Check.due("not more", x.odds(0, 1, 45, 100), 0);
        Check.due("22, 2, and a month more and t", x.odds(0, 2, 22 + 2 + 1 + 1, 100), 1000000000);
        Check.due("not more", x.odds(0, 2, 27, 100), 0);
        x.months(11);
        Check.due("t of the month that it is", x.odds(0, 1, x.grown(0, 1), 0), 1000000000);
        Check.due("not more", x.odds(0, 1, Math.min(200, x.grown(0, 1) + 1), 0), 0);
        BuriedGoods raw = Check.field("s y2f1;rd9;tp0v80m0");
        Check.due("by frost ripe behind one month", raw.odds(0, 2, 81, 0), 1000000000);
        Check.due("not more", raw.odds(0, 2, 82, 0), 0);
    }

    private static void oddsOfOneAmongOthers() {
        BuriedGoods x = Check.field("s w3h1y24f0;tp1v40;tp0v1;tp2v1", "y:n");
        Check.due("two beside it, as they are", x.odds(0, 1, 42, 0), 1000000000);
        Check.due("not three", x.odds(0, 1, 43, 0), 0);
        x.lose(0);
        Check.due("without a stake", x.odds(0, 1, 42, 0), 1000000000);
        x.takes(1);
        Check.due("one beside it", x.odds(0, 1, 42, 0), 0);
        Check.due("lies nowhere", x.odds(1, 0, 0, 0), -1);
    }

    private static void sharesAtTheBounds() {
        BuriedGoods x = Check.field("tp0v1;tv99;tp3v50");
        Check.due("c 0", x.shares(1, 0), 0);
        Check.due("c 1", x.shares(1, 1), 0);
        Check.due("c 2", x.shares(1, 2), 1);
        Check.due("c 150", x.shares(0, 150), 1);
        Check.due("c 149", x.shares(0, 149), 0);
        Check.due("c 999", x.shares(1, 999), 999 * 99 / 150);
        Check.due("c 1000", x.shares(1, 1000), -1);
        Check.due("c -1", x.shares(1, -1), -1);
        BuriedGoods one = Check.field("tv7");
        Check.due("alone, all of it", one.shares(0, 999), 999);
        BuriedGoods nothing = Check.field("tp0v1;tp1v2;t v1", "y:0-9");
        nothing.months(1);
        Check.due("worth nothing", nothing.shares(0, 999), 0);
        Check.due("all of what is worth anything", nothing.shares(2, 999), 999);
        nothing.lay(2, 5);
        nothing.months(1);
        for (int at = 0; at < 3; at++) {
            Check.due("all 0", nothing.shares(at, 999), 0);
        }
        BuriedGoods most = Check.field("sw4h2;tp0v99;tp1v99;tp2v99;tp3v99;tp4v99;tp5v99;tp6v99;tp7v99", "y:9");
        most.months(12);
        Check.due("200 of 1600", most.shares(7, 999), 124);
    }

    private static void sharesCut() {
        BuriedGoods x = Check.field("tv3;tp0v5;tv11;tp1v13;tv17");
        int[] values = {3, 5, 11, 13, 17};
        for (int at = 0; at < 5; at++) {
            for (int c = 0; c <= 999; c += 37) {
                Check.due("shares(" + at + ", " + c + ")", x.shares(at, c), c * values[at] / 49);
            }
        }
    }

    private static void dearestAndOldest() {
        BuriedGoods x = Check.field("tv9m1;tv10m2;tp0v11m3;tp1v11m4;tv11m4;tp2v10m4");
        Check.due("the lowest of the dearest", x.most(0), 2);
        Check.due("the lowest of the oldest", x.most(1), 3);
        BuriedGoods last = Check.field("t;t;t;t;t;t;t;tv11m1");
        Check.due("the last", last.most(0), 7);
        Check.due("the last", last.most(1), 7);
        BuriedGoods alike = Check.field("t;t;t;t;t;t;t;t");
        Check.due("all alike", alike.most(0), 0);
        Check.due("all alike", alike.most(1), 0);
        BuriedGoods none = Check.field("r");
        Check.due("no dearest", none.most(0), -1);
        Check.due("no oldest", none.most(1), -1);
        BuriedGoods nothing = Check.field("sy1;tm9;tp0v1", "y:0-9");
        nothing.months(1);
        nothing.sell(0);
        Check.due("worth nothing", nothing.most(0), 1);
    }

    private static void richestRow() {
        BuriedGoods x = Check.field("sw3h4;tp0v3;tp1v3;tp3v5;tp6v2;tp7v2;tp8v3;tv99;tv99");
        Check.due("the most together", x.most(2), 2);
        x.takes(5);
        Check.due("what lies alone", x.most(2), 0);
        x.takes(0);
        Check.due("five alone", x.most(2), 1);
        x.lay(6, 11);
        Check.due("the last row", x.most(2), 3);
        BuriedGoods alike = Check.field("sw3h4;tp9v6;tp3v3;tp4v3;tp8v5");
        Check.due("the lowest of several", alike.most(2), 1);
        BuriedGoods none = Check.field("sh4;t");
        Check.due("none lies: the lowest", none.most(2), 0);
        BuriedGoods many = Check.field("sw6h2;tp0v1;tp1v1;tp2v1;tp3v1;tp4v1;tp6v6");
        Check.due("not the most things", many.most(2), 1);
    }

    private static void dampestRow() {
        String[] rows = {"rd0", "rd9;rd8;rd7;rd6", "rd6;rd9;rd9;rd8", "rd0;rd0;rd0;rd1", "rd3;rd2", "rd2;rd2", "r;r;r;r", "rd2;rd3;rd2"};
        int[] due = {1, 0, 1, 3, 0, 2, 0, 1};
        for (int i = 0; i < rows.length; i++) {
            Check.due("the dampest of " + rows[i], Check.field("sh4;" + rows[i]).most(3), due[i]);
        }
        Check.due("of one", Check.field("sh1;rd0").most(3), 0);
        Check.due("of two", Check.field("sh2;rd0").most(3), 1);
    }

    private static void bits() {
        BuriedGoods x = Check.field("s y5k99;tp0;tp1;tp2;tp3;tp4;tp5;tp6;tp7");
        for (int at = 0; at < 8; at++) {
            Check.due("all lie", x.most(5), 255);
            x.takes(at);
            Check.due("all but " + at, x.most(5), 255 - (1 << at));
            Check.due("all are there", x.most(4), 255);
            x.undo();
            x.lose(at);
            Check.due("without a stake " + at, x.most(7), 1 << at);
            Check.due("lies still", x.most(5), 255);
            x.undo();
        }
        BuriedGoods ripe = Check.field("s y5k99;tm5;tm4;tp0m5;tp1m4;tm99;tp2m0;tp3m6;t");
        Check.due("ripe, lying or not", ripe.most(6), 1 + 4 + 16 + 64);
        Check.due("lying", ripe.most(5), 4 + 8 + 32 + 64);
        Check.due("things", ripe.most(4), 255);
        ripe.sell(0);
        ripe.sell(4);
        Check.due("things", ripe.most(4), 255 - 1 - 16);
        Check.due("ripe", ripe.most(6), 4 + 64);
        ripe.lose(2);
        ripe.lose(5);
        Check.due("without a stake, ripe or raw", ripe.most(7), 4 + 32);
        Check.due("those nowhere have none to lose", ripe.most(7) & 2, 0);
        BuriedGoods none = Check.field("r");
        for (int what = 4; what < 8; what++) {
            Check.due("none", none.most(what), 0);
        }
    }

    private static void freePlots() {
        for (int wide = 1; wide <= 6; wide++) {
            for (int rows = 1; rows <= 4; rows++) {
                Check.due("free", Check.field("sw" + wide + "h" + rows + ";t").most(8), wide * rows);
                Check.due("all but one", Check.field("sw" + wide + "h" + rows + ";tp0").most(8), wide * rows - 1);
            }
        }
        BuriedGoods x = Check.field("sw2h1;tp0;tp1;t");
        Check.due("full", x.most(8), 0);
        x.lose(0);
        Check.due("without a stake it's not free", x.most(8), 0);
        x.takes(1);
        Check.due("one free", x.most(8), 1);
    }

    private static void allTogether() {
        BuriedGoods x = Check.field("sw4h2y24;tp0v99;tp1v99;tp2v99;tp3v99;tp4v99;tp5v99;tp6v99;tp7v99", "y:9");
        Check.due("all", x.most(9), 792);
        x.months(12);
        Check.due("at most", x.most(9), 1600);
        x.takes(0);
        Check.due("lying or not", x.most(9), 1600);
        Check.due("none", Check.field("r").most(9), 0);
    }

    private static void lawful() {
        BuriedGoods x = Check.field("sy5k99;tm5v99;tm4v98;tp0m9v97;tm99v1");
        Check.due("only what is ripe and lies nowhere", x.most(10), 199);
        x.takes(2);
        Check.due("taken up", x.most(10), 296);
        for (int i = 0; i < 14; i++) {
            x.give(50);
        }
        x.give(2);
        Check.due("998", x.most(10), 998);
        x.give(1);
        Check.due("999", x.most(10), 999);
        x.give(1);
        Check.due("999 at most", x.most(10), 999);
        Check.due("the coins are not more by it", x.rule(4), 803);
        Check.due("without things", Check.field("sk0").most(10), 0);
    }

    private static void besideOneAnother() {
        String[] fields = {"sw4h2;tp0;tp1;tp2;tp3;tp4;tp5;tp6;tp7", "sw2h4;tp0;tp1;tp2;tp3;tp4;tp5;tp6;tp7", "sw6h2;tp0;tp1;tp2;tp3;tp4;tp5;tp6",
            "sw6h4;tp0;tp7;tp14;tp21", "sw1h4;tp0;tp1;tp2;tp3", "sw6h1;tp0;tp2;tp4", "sw3h2;tp2;tp3", "sw1h1;tp0", "r"};
        int[] due = {10, 10, 6, 0, 3, 0, 0, 0, 0};
        for (int i = 0; i < fields.length; i++) {
            Check.due("beside in " + fields[i], Check.field(fields[i]).most(11), due[i]);
        }
        BuriedGoods x = Check.field(fields[0]);
        x.lose(1);
        Check.due("without a stake", x.most(11), 10);
        x.takes(2);
        Check.due("one less", x.most(11), 7);
    }

    private static void countsFromNoneToAll() {
        BuriedGoods x = new BuriedGoods();
        int[] first = {0, 0, 0, 0, -1, 0, 3, 0, 0, 0};
        for (int what = 0; what < 10; what++) {
            Check.due("at first count(" + what + ")", x.count(what), first[what]);
        }
        for (int what : new int[] {Integer.MIN_VALUE, -2, -1, 10, 11, Integer.MAX_VALUE}) {
            Check.due("count(" + what + ")", x.count(what), -1000000);
        }
        Check.feed(x, "sy1k99;tm1;tm1;tp0;tp1;tp2;tp3;tp4;tp5");
        x.text(0);
        x.sell(0);
        for (int i = 0; i < 4; i++) {
            Check.law(x, "y:" + i);
        }
        x.law(3);
        x.moles(9);
        for (int i = 0; i < 10; i++) {
            x.seen(0, 0, 1, 0, true);
        }
        x.months(60);
        Check.feed(x, "x".repeat(240));
        int[] due = {8, 7, 4, 240, 3, 60, 9, 10, 60, 40};
        for (int what = 0; what < 10; what++) {
            Check.due("at most count(" + what + ")", x.count(what), due[what]);
        }
    }
}
