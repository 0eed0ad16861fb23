/** The bounds that Terms 3 names for what will be and how damp a row is (promises 24 to 32). */
public final class EdgeFutureTest {
    public static void main(String[] args) {
        grownFromNoneTo99();
        grownBehindTheLastMonth();
        ripeIn();
        bestWithin60();
        bestOfSeveral();
        layingByOneRow();
        layingWithoutRoom();
        layingTies();
        layingFromNowOn();
        layingMonths();
        layingDigits();
        wayToEachPlot();
        wayLeavesOut();
        wayByAll();
        full();
        seenAtTheBounds();
        seenMoreAndLess();
        seenAsTold();
        seenByTheLawThatHolds();
        tenSeen();
        dampsRising();
        dampsFromNoneToNine();
        askWithin24();
        askOfSeveral();
        askByEachDamp();
        askByTrying();
        askedNothingChanges();
        Check.finish("EdgeFutureTest");
    }

    private static void grownFromNoneTo99() {
        BuriedGoods x = Check.field("s y24f0;rd9;tp0v10s5;tv7m99;tp5v50m3", "y:m/10-d/3");
        int value = 50;
        int first = 10;
        for (int n = 0; n <= 99; n++) {
            Check.due("grown(2, " + n + ")", x.grown(2, n), value);
            Check.due("grown(0, " + n + ")", x.grown(0, n), first);
            Check.due("grown(1, " + n + ")", x.grown(1, n), 7);
            value = Math.max(0, Math.min(200, value + Math.min(99, 3 + n) / 10 - 1));
            first = Math.max(0, Math.min(200, first + n / 10 - 3));
        }
        Check.due("100", x.grown(0, 100), -1);
        Check.due("-1", x.grown(0, -1), -1);
        Check.due("100, nowhere", x.grown(1, 100), -1);
        Check.due("-1, nowhere", x.grown(1, -1), -1);
    }

    private static BuriedGoods atTheEnd(String land, String law) {
        BuriedGoods x = Check.field(land, law);
        for (int i = 0; i < 16; i++) {
            x.months(60);
        }
        x.months(39);
        return x;
    }

    private static void grownBehindTheLastMonth() {
        BuriedGoods x = atTheEnd("s k5 f4 w2h1 y12; t v9; t v50", "y:t-5");
        Check.due("laid at the end", x.lay(0, 0), 4);
        int value = 9;
        int lain = 0;
        int ripe = -1;
        for (int n = 0; n <= 99; n++) {
            Check.due("grown(0, " + n + ") at the end", x.grown(0, n), value);
            ripe = ripe < 0 && lain >= 12 ? n : ripe;
            value = Math.max(0, Math.min(200, value + (999 + n) % 12 - 5));
            lain += (999 + n) % 12 < 4 ? 2 : 1;
        }
        Check.due("ripe in at the end", x.ripeIn(0), ripe);
        Check.due("full at the end", x.full(), ripe);
        Check.due("laying at the end", x.laying(9, 0), 50 + (3 + 4 + 5 + 6 + 7 + 8 + 9 + 10 + 11) - 45);
        Check.due("the month still", x.count(5), 999);
    }

    private static void ripeIn() {
        for (int year = 1; year <= 24; year++) {
            BuriedGoods x = Check.field("s f0y" + year + ";tp0;tp1m" + (year - 1) + ";tp2m" + year + ";tp3m99;tm" + year);
            Check.due("from the beginning", x.ripeIn(0), year);
            Check.due("a month is missing", x.ripeIn(1), 1);
            Check.due("just ripe", x.ripeIn(2), 0);
            Check.due("long since", x.ripeIn(3), 0);
            Check.due("lies nowhere", x.ripeIn(4), -1);
            Check.due("full", x.full(), year);
            x.lose(0);
            Check.due("without a stake, too", x.ripeIn(0), year);
            Check.due("full without a stake", x.full(), year);
        }
        BuriedGoods f = Check.field("s f9y24;tp0;tp1m23");
        Check.due("nine months of two, three of one, two of two", f.ripeIn(0), 14);
        Check.due("two at once", f.ripeIn(1), 1);
    }

    private static void bestWithin60() {
        BuriedGoods up = Check.field("s y24f0;tp0v9", "y:1");
        Check.due("behind sixty", up.best(0, 0), 60);
        Check.due("not behind sixty-one", up.best(0, 1), 69);
        BuriedGoods jump = Check.field("s y24f0;tp0v9m39", "y:m=98?9;y:0");
        Check.due("the sixtieth month still", jump.best(0, 0), 60);
        Check.due("the sixtieth month still", jump.best(0, 1), 18);
        BuriedGoods late = Check.field("s y24f0;tp0v9m38", "y:m=98?9;y:0");
        Check.due("the sixty-first no more", late.best(0, 0), 0);
        Check.due("the sixty-first no more", late.best(0, 1), 9);
        for (int year = 1; year <= 24; year++) {
            BuriedGoods down = Check.field("s f0y" + year + ";tp0v99", "y:0-1");
            Check.due("ripe first", down.best(0, 0), year);
            Check.due("ripe first", down.best(0, 1), 99 - year);
        }
    }

    private static void bestOfSeveral() {
        BuriedGoods flat = Check.field("s y5f0;tp0v10;tp1v10m5;tp2v1m99", "y:0");
        Check.due("the fewest of several", flat.best(0, 0), 5);
        Check.due("now", flat.best(1, 0), 0);
        Check.due("now", flat.best(2, 0), 0);
        Check.due("as it is", flat.best(2, 1), 1);
        BuriedGoods worthless = Check.field("s y5f0;tp0v1", "y:0-9");
        Check.due("worth nothing when it is ripe", worthless.best(0, 0), 5);
        Check.due("worth nothing when it is ripe", worthless.best(0, 1), 0);
        BuriedGoods top = Check.field("s y5f0;tp0v99", "y:9");
        Check.due("200 first", top.best(0, 0), 12);
        Check.due("200", top.best(0, 1), 200);
        top.lose(0);
        Check.due("without a stake, too", top.best(0, 0), 12);
    }

    private static void layingByOneRow() {
        for (int wide = 1; wide <= 6; wide++) {
            for (int things = 0; things <= 8; things++) {
                BuriedGoods x = Check.field("sh1k0w" + wide + ";rd2" + ";t".repeat(things), "y:d");
                int laid = Math.min(wide, things);
                Check.due("laying " + things + " in " + wide, x.laying(1, 0), 10 * things + 2 * laid);
                int digits = 0;
                for (int at = 0; at < 8; at++) {
                    digits = digits * 10 + (at < laid ? 0 : 9);
                }
                Check.due("where to lay " + things + " in " + wide, x.laying(1, 1), digits);
            }
        }
    }

    private static void layingWithoutRoom() {
        BuriedGoods x = Check.field("s w2h2k0;tp0;tp1;tv20;tp2;tv30;tp3", "y:9");
        Check.due("no free plot", x.laying(5, 0), 50);
        Check.due("no free plot", x.laying(5, 1), 99999999);
        x.takes(3);
        Check.due("one of three", x.laying(1, 0), 20 + 30 + 10 + 9);
        Check.due("the first of them", x.laying(1, 1), 99199999);
        x.undo();
        x.takes(1);
        Check.due("one of three, the place ahead", x.laying(1, 1), 90999999);
        BuriedGoods none = Check.field("r");
        Check.due("without things", none.laying(24, 0), 0);
        Check.due("without things", none.laying(24, 1), 99999999);
    }

    /** Of several ways the least row of digits: laid in a low row ahead of left out. */
    private static void layingTies() {
        BuriedGoods x = Check.field("s w6h4;t;t;t;t;t;t;t;t", "y:0");
        Check.due("all the same", x.laying(7, 0), 80);
        Check.due("six in the first, two in the second", x.laying(7, 1), 11);
        BuriedGoods one = Check.field("s w1h4;t;t;t;t;t;t;t;t", "y:0");
        Check.due("one in each", one.laying(7, 1), 1239999);
        BuriedGoods less = Check.field("s w6h4;t;t;t;t;t;t;t;t", "y:0-1");
        Check.due("all left out", less.laying(1, 0), 80);
        Check.due("all left out", less.laying(1, 1), 99999999);
        BuriedGoods two = Check.field("s w6h2;rd1;rd1;t;t", "y:d");
        Check.due("alike rows", two.laying(1, 1), 999999);
        BuriedGoods last = Check.field("s w6h4;rd1;rd1;rd1;rd2;t;t", "y:d");
        Check.due("the dampest of them", last.laying(1, 1), 33999999);
    }

    private static void layingFromNowOn() {
        BuriedGoods x = Check.field("s w1h2f3y3k9;rd0;rd9;tv50m1;tp0", "y:m*[d/9]+t");
        Check.due("as many months as it lay", x.laying(1, 0), 51);
        Check.due("where", x.laying(1, 1), 19999999);
        Check.due("two by frost", x.laying(2, 0), 50 + 1 + 3 + 1);
        x.months(10);
        Check.due("from this month on", x.laying(3, 0), 50 + 9 + 9 + Math.min(9, 3));
        x.lay(0, 1);
        Check.due("what lies is no part", x.laying(3, 0), 0);
        Check.due("what lies is no part", x.laying(3, 1), 99999999);
        x.takes(0);
        x.months(2);
        Check.due("how long it lay goes on", x.laying(1, 0), 51);
    }

    private static void layingMonths() {
        BuriedGoods x = Check.field("s w1h1f0k0;tv10", "y:1");
        for (int n = 1; n <= 24; n++) {
            Check.due("laying(" + n + ")", x.laying(n, 0), 10 + n);
        }
        Check.due("laying(25)", x.laying(25, 0), -1);
        Check.due("laying(0)", x.laying(0, 0), -1);
        BuriedGoods alone = Check.field("s w3h1;tp0;tp2;tv50;tv40", "y:n*9-1");
        Check.due("as if alone in the whole field", alone.laying(2, 0), 90);
        Check.due("left out", alone.laying(2, 1), 99999999);
    }

    /** Every thing in another row: the first place has the highest digit. */
    private static void layingDigits() {
        String land = "s w1h4k0;rd1;rd2;rd3;rd4;tp0v99;t v1 s1;t v2 s4;tp3;t v3 s2";
        BuriedGoods x = Check.field(land, "y:9-s*d");
        int best = -1;
        int digits = 0;
        int[] at = {1, 2, 4};
        int[] stuff = {1, 4, 2};
        int[] value = {1, 2, 3};
        for (int code = 0; code < 27; code++) {
            int[] row = {code / 9, code / 3 % 3, code % 3};
            int[] rows = {1, 2, 9};
            int sum = 0;
            int number = 99999999;
            boolean may = true;
            for (int i = 0; i < 3; i++) {
                int r = rows[row[i]];
                for (int k = 0; k < i; k++) {
                    may &= r == 9 || rows[row[k]] != r;
                }
                int gain = Math.max(-9, Math.min(9, 9 - stuff[i] * (r + 1)));
                sum += r == 9 ? value[i] : Math.max(0, value[i] + gain);
                number -= r == 9 ? 0 : (9 - r) * power(7 - at[i]);
            }
            if (may && (sum > best || sum == best && number < digits)) {
                best = sum;
                digits = number;
            }
        }
        Check.due("rows 0 and 3 of the first column are taken", x.laying(1, 0), best);
        Check.due("so it is laid", x.laying(1, 1), digits);
    }

    private static int power(int n) {
        int power = 1;
        for (int i = 0; i < n; i++) {
            power *= 10;
        }
        return power;
    }

    private static void wayToEachPlot() {
        for (int wide = 1; wide <= 6; wide++) {
            for (int rows = 1; rows <= 4; rows++) {
                for (int p = 0; p < wide * rows; p++) {
                    BuriedGoods x = Check.field("sy1w" + wide + "h" + rows + ";tm1p" + p);
                    Check.due("to plot " + p + " of " + wide + " wide", x.way(), 2 * (p / wide + p % wide));
                }
            }
        }
    }

    private static void wayLeavesOut() {
        BuriedGoods x = Check.field("s w6h4y5f0;tp23m4;tp5m5;tp18m5;tm9;tp0m5");
        Check.due("not what is raw", x.way(), 5 + 8 + 3);
        x.months(1);
        Check.due("ripe now", x.way(), 16);
        x.lose(1);
        Check.due("not what has no stake", x.way(), 16);
        x.lose(0);
        Check.due("nor that", x.way(), 6);
        x.search(5);
        Check.due("it has one again", x.way(), 16);
        x.takes(2);
        Check.due("not what was taken up", x.way(), 10);
        x.takes(1);
        Check.due("plot 0 alone", x.way(), 0);
        x.takes(4);
        Check.due("none is ripe so", x.way(), 0);
        Check.due("without things", Check.field("r").way(), 0);
    }

    private static void wayByAll() {
        BuriedGoods corners = Check.field("s w6h4y1;tm1p0;tm1p5;tm1p18;tm1p23");
        Check.due("by the corners", corners.way(), 16);
        BuriedGoods comb = Check.field("s w6h4y1;tm1p18;tm1p2;tm1p20;tm1p4;tm1p22;tm1p12;tm1p14;tm1p16");
        Check.due("eight", comb.way(), 16);
        BuriedGoods line = Check.field("s w6h1y1;tm1p5;tm1p1;tm1p3");
        Check.due("in a line", line.way(), 10);
        BuriedGoods spread = Check.field("s w6h4y1;tm1p18;tm1p8;tm1p10;tm1p23;tm1p5;tm1p13;tm1p15;tm1p20");
        Check.due("by all that stand apart", spread.way(), fewest(new int[] {18, 8, 10, 23, 5, 13, 15, 20}, 0, 0));
    }

    private static int fewest(int[] stops, int had, int from) {
        int best = had == (1 << stops.length) - 1 ? from / 6 + from % 6 : 1000;
        for (int i = 0; i < stops.length; i++) {
            if ((had >> i & 1) == 0) {
                int steps = Math.abs(from / 6 - stops[i] / 6) + Math.abs(from % 6 - stops[i] % 6);
                best = Math.min(best, steps + fewest(stops, had | 1 << i, stops[i]));
            }
        }
        return best;
    }

    private static void full() {
        BuriedGoods x = Check.field("s y24f0k9;tp0m1;tp1m9;tp2m99;tm3");
        Check.due("the last of them", x.full(), 23);
        x.takes(0);
        Check.due("the next", x.full(), 15);
        x.takes(1);
        Check.due("all ripe", x.full(), 0);
        x.takes(2);
        Check.due("none lies", x.full(), -1);
        x.lay(3, 7);
        Check.due("one lies", x.full(), 21);
        x.lose(3);
        Check.due("without a stake", x.full(), 21);
    }

    private static void seenAtTheBounds() {
        int[][] taken = {{0, 0, 1, 0}, {0, 0, 24, 200}, {7, 3, 1, 200}, {7, 3, 24, 0}, {7, 0, 12, 100}};
        for (int[] c : taken) {
            BuriedGoods x = Check.field("sh4;t;t;t;t;t;t;t;t");
            Check.due("seen", x.seen(c[0], c[1], c[2], c[3], true), 1);
            Check.due("seen, less", x.seen(c[0], c[1], c[2], c[3], false), 2);
            Check.due("one of both is not so", x.damps(c[1], -1), 0);
        }
        int[][] refused = {{-1, 0, 1, 0}, {8, 0, 1, 0}, {0, -1, 1, 0}, {0, 4, 1, 0}, {0, 0, 0, 0}, {0, 0, 25, 0}, {0, 0, 1, -1}, {0, 0, 1, 201}};
        BuriedGoods x = Check.field("sh4;t;t;t;t;t;t;t;t");
        for (int[] c : refused) {
            Check.due("not seen", x.seen(c[0], c[1], c[2], c[3], true), -1);
        }
        Check.due("none", x.count(7), 0);
        BuriedGoods one = Check.field("sh1;t");
        Check.due("no second thing", one.seen(1, 0, 1, 0, true), -1);
        Check.due("no second row", one.seen(0, 1, 1, 0, true), -1);
    }

    /** v or more takes v, less does not. */
    private static void seenMoreAndLess() {
        for (int v = 0; v <= 40; v++) {
            BuriedGoods more = Check.field("s f0y24;tv20", "y:d");
            BuriedGoods less = Check.field("s f0y24;tv20", "y:d");
            more.seen(0, 0, 2, v, true);
            less.seen(0, 0, 2, v, false);
            int fits = 0;
            for (int d = 0; d <= 9; d++) {
                fits += 20 + 2 * d >= v ? 1 : 0;
            }
            Check.due(v + " or more", more.damps(0, -1), fits);
            Check.due("less than " + v, less.damps(0, -1), 10 - fits);
            Check.due("the first by " + v + " or more", more.damps(0, 0), fits == 0 ? -1 : 10 - fits);
            Check.due("the last by less than " + v, less.damps(0, 9 - fits), fits == 10 ? 0 : 9 - fits);
            Check.due("none behind it", less.damps(0, 10 - fits), -1);
        }
        BuriedGoods x = Check.field("s f0y24;tv99", "y:9");
        x.seen(0, 0, 24, 200, true);
        Check.due("200 at most is seen", x.damps(0, -1), 10);
        x.seen(0, 1, 24, 200, false);
        Check.due("less than 200 is not", x.damps(1, -1), 0);
        x.seen(0, 2, 24, 0, false);
        Check.due("less than 0 never", x.damps(2, -1), 0);
    }

    private static void seenAsTold() {
        BuriedGoods x = Check.field("s f0y24w3h2;rd7;rd7;tp0v20m3s2;tp1v30;tv40", "y:n*9+m+t+s+d-7");
        x.months(13);
        x.takes(2);
        x.takes(0);
        x.buy(5, 5);
        // Alone in the field, in month 0, as told: 20 + (3 + 0 + 2 + d - 7) + (4 + 1 + 2 + d - 7).
        for (int d = 0; d <= 9; d++) {
            BuriedGoods y = Check.field("s f0y24w3h2;rd7;rd7;tp0v20m3s2;tp1v30;tv40", "y:n*9+m+t+s+d-7");
            y.months(5);
            y.takes(0);
            int value = 20 + Math.max(-9, d - 2) + Math.min(9, d);
            y.seen(0, 1, 2, value, true);
            y.seen(0, 1, 2, value + 1, false);
            Check.due("one fits", y.damps(1, -1), 1);
            Check.due("the one that it was", y.damps(1, 0), d);
            Check.due("of another row", y.damps(0, -1), 10);
        }
        Check.due("as told when it is gone", x.seen(2, 0, 1, 33, true), 1);
        Check.due("as told when it is gone", x.damps(0, -1), 10);
    }

    private static void seenByTheLawThatHolds() {
        BuriedGoods x = Check.field("s f0y24;tv20s4");
        x.seen(0, 0, 1, 22, true);
        Check.due("without a law: more damp than its stuff", x.damps(0, -1), 5);
        Check.due("the first", x.damps(0, 0), 5);
        Check.law(x, "y:d");
        x.law(0);
        Check.due("by a law", x.damps(0, -1), 8);
        Check.due("the first", x.damps(0, 0), 2);
        x.law(-1);
        Check.due("without it again", x.damps(0, -1), 5);
    }

    private static void tenSeen() {
        BuriedGoods x = Check.field("s f0y24;tv20", "y:d");
        for (int i = 1; i <= 10; i++) {
            Check.due("seen", x.seen(0, i % 2, 1, 20 + (i > 8 ? i - 4 : 0), true), i);
            Check.due("how many", x.count(7), i);
        }
        Check.due("the eleventh", x.seen(0, 0, 1, 29, true), -1);
        Check.due("ten", x.count(7), 10);
        Check.due("the tenth counts", x.damps(0, -1), 4);
        Check.due("the ninth counts", x.damps(1, -1), 5);
        Check.feed(x, "t");
        x.text(0);
        Check.due("none of a new field", x.count(7), 0);
        Check.due("the first again", x.seen(0, 0, 1, 0, true), 1);
    }

    private static void dampsRising() {
        BuriedGoods x = Check.field("s f0y24;rd3;tv20", "y:[d-2]*[d-5]*[d-7]");
        x.seen(0, 0, 1, 20, true);
        // 0 or more at 2, 3, 4, 5, 7, 8, 9.
        int[] fits = {2, 3, 4, 5, 7, 8, 9};
        Check.due("how many", x.damps(0, -1), 7);
        for (int i = 0; i < 7; i++) {
            Check.due("damps(0, " + i + ")", x.damps(0, i), fits[i]);
        }
        Check.due("no eighth", x.damps(0, 7), -1);
        Check.due("as it is told, is no part", x.damp(0), 3);
        for (int i = 0; i < 10; i++) {
            Check.due("damps(1, " + i + ")", x.damps(1, i), i);
        }
        Check.due("no eleventh", x.damps(1, 10), -1);
    }

    /** What only a row damper than 9 or less damp than 0 could show fits none. */
    private static void dampsFromNoneToNine() {
        String[] laws = {"y:d-9", "y:0-d"};
        int[] ends = {9, 0};
        for (int i = 0; i < 2; i++) {
            BuriedGoods x = Check.field("s f0y24;tv20", laws[i]);
            x.seen(0, 0, 1, 20, true);
            Check.due("just one", x.damps(0, -1), 1);
            Check.due("the end", x.damps(0, 0), ends[i]);
            Check.due("asked at once", x.ask(0, 0), 1);
            x.seen(0, 1, 1, 21, true);
            Check.due("none", x.damps(1, -1), 0);
            Check.due("none", x.damps(1, 0), -1);
            Check.due("nothing to ask", x.ask(1, 0), -1);
        }
    }

    private static void askWithin24() {
        for (int n = 1; n <= 24; n++) {
            BuriedGoods x = Check.field("s f0y24;tv20", "y:m=" + (n - 1) + "?d;y:0");
            Check.due("shown behind " + n, x.ask(0, 0), n);
        }
        BuriedGoods late = Check.field("s f0y24;tv20", "y:m=24?d;y:0");
        Check.due("shown too late", late.ask(0, 0), 1);
        BuriedGoods told = Check.field("s f0y24;tv20m9;tv20m5;tv20", "y:m=10?d;y:0");
        int[] when = {2, 6, 11};
        for (int i = 0; i < 3; i++) {
            Check.due("as told " + i, told.ask(2, i), when[i]);
        }
        told.months(7);
        Check.due("from month 0", told.ask(2, 1), 6);
    }

    private static void askOfSeveral() {
        BuriedGoods x = Check.field("s f0y24;tv20", "y:m=4?d/5;y:m=7?d/3;y:m=11?0-d/3;y:m=15?d");
        Check.due("the fewest alike", x.ask(0, 0), 16);
        BuriedGoods some = Check.field("s f0y24;tv20", "y:m=4?d/5;y:m=7?d/5;y:0");
        Check.due("the least of several", some.ask(0, 0), 5);
        some.seen(0, 0, 5, 21, true);
        Check.due("five that are alike always", some.ask(0, 0), 1);
        Check.due("in another row ten", some.ask(1, 0), 5);
        some.seen(0, 0, 5, 21, false);
        Check.due("nothing fits", some.ask(0, 0), -1);
        Check.due("nothing fits in that row alone", some.ask(1, 0), 5);
        BuriedGoods one = Check.field("s f0y24;tv20", "y:m=4?d;y:0");
        one.seen(0, 0, 5, 29, true);
        Check.due("only one fits", one.damps(0, -1), 1);
        Check.due("only one fits", one.ask(0, 0), 1);
        BuriedGoods top = Check.field("s f0y24;tv99", "y:d");
        Check.due("at once", top.ask(0, 0), 1);
        BuriedGoods ends = Check.field("s f0y24;tv1", "y:m=0?d;y:0-9");
        Check.due("ahead of its end", ends.ask(0, 0), 1);
        BuriedGoods most = Check.field("s f0y24;tv20", "y:m=0?1/[d+1]*5;y:m=1?[d/8]*3;y:m=2?d/5+d/7;y:0");
        // Nine are alike behind the first month, seven behind the second, four behind the third.
        Check.due("the most alike count, not how many kinds", most.ask(0, 0), 3);
    }

    /** Each of the ten damps counts among those alike, the lowest and the highest, too. */
    private static void askByEachDamp() {
        for (int d = 0; d <= 9; d++) {
            // Behind one month d is alike with three others; behind two with nothing, and the others by threes.
            int a = (d + 1) % 10;
            int b = (d + 2) % 10;
            int c = (d + 3) % 10;
            String law = "y:m=0&(d=" + d + "|d=" + a + "|d=" + b + "|d=" + c + ")?9;y:m=0?d-5;y:m=1&d=" + d + "?1;y:0";
            BuriedGoods x = Check.field("s f0y24;tv50", law);
            Check.due("behind the second, by " + d, x.ask(0, 0), 2);
            BuriedGoods only = Check.field("s f0y24;tv50", "y:m=3&d=" + d + "?1;y:m=5&d=" + a + "?1;y:0");
            Check.due("ten alike, nine behind four, eight behind six, by " + d, only.ask(0, 0), 6);
            only.seen(0, 0, 4, 51, true);
            Check.due("one fits", only.damps(0, 0), d);
            Check.due("one is alike with itself at once", only.ask(0, 0), 1);
            BuriedGoods two = Check.field("s f0y24;tv50", "y:m=3&(d=" + d + "|d=" + a + ")?1;y:m=5&d=" + a + "?1;y:m=4&d=" + b + "?1;y:0");
            two.seen(0, 0, 4, 51, true);
            Check.due("two fit", two.damps(0, -1), 2);
            Check.due("they differ behind six, by " + d, two.ask(0, 0), 6);
            two.seen(0, 0, 6, 52, false);
            Check.due("the one that is left", two.damps(0, 0), d);
        }
        // What grew in one month goes on in the next: by fours behind one, by twos behind two.
        BuriedGoods on = Check.field("s f0y24;tv50", "y:m=0?d/4;y:m=1?d/2-d/4;y:0");
        Check.due("month by month on", on.ask(0, 0), 2);
    }

    interface Gain {
        int of(int v, int s, int d, int m, int t);
    }

    private static final String[] LAWS = {"y:d-s", "y:d/3+t/4-2", "y:v/10-d", "y:d*d/9-m/3", "y:m>9&d>4?3;y:t=5?d;y:1", "y:v-20<d?d/2;y:0-1",
        "y:[d-4]*[s-2]"};
    private static final Gain[] GAINS = {(v, s, d, m, t) -> d - s, (v, s, d, m, t) -> d / 3 + t / 4 - 2, (v, s, d, m, t) -> v / 10 - d,
        (v, s, d, m, t) -> d * d / 9 - m / 3, (v, s, d, m, t) -> m > 9 && d > 4 ? 3 : t == 5 ? d : 1,
        (v, s, d, m, t) -> v - 20 < d ? d / 2 : -1, (v, s, d, m, t) -> (d - 4) * (s - 2)};

    private static int value(Gain gain, int v, int s, int d, int m, int n) {
        int value = v;
        int lain = m;
        for (int t = 0; t < n; t++) {
            value = Math.max(0, Math.min(200, value + Math.max(-9, Math.min(9, gain.of(value, s, d, lain, t % 12)))));
            lain = Math.min(99, lain + (t % 12 < 3 ? 2 : 1));
        }
        return value;
    }

    private static void askByTrying() {
        int[][] things = {{20, 1, 0}, {35, 4, 8}, {99, 5, 97}, {1, 0, 2}};
        for (int law = 0; law < LAWS.length; law++) {
            Gain gain = GAINS[law];
            for (int n = 1; n <= 24; n += 4) {
                BuriedGoods x = Check.field("s f3y6w2h2;rd1;rd2;tv20s1;tv35s4m8p1;tv99s5m97p2;t v1m2", LAWS[law]);
                x.months(3);
                int asked = value(gain, 35, 4, 6, 8, n);
                x.seen(1, 1, n, asked, n % 8 == 1);
                int fitting = 0;
                int count = 0;
                for (int d = 0; d <= 9; d++) {
                    boolean more = value(gain, 35, 4, d, 8, n) >= asked;
                    if (more == (n % 8 == 1)) {
                        Check.due("damps(1, " + count + ") by " + LAWS[law], x.damps(1, count), d);
                        fitting |= 1 << d;
                        count++;
                    }
                }
                Check.due("damps(1, -1) by " + LAWS[law], x.damps(1, -1), count);
                for (int told = 0; told < 4; told++) {
                    int[] t = things[told];
                    Check.due("ask(1, " + told + ") by " + LAWS[law], x.ask(1, told), when(gain, t, fitting));
                    Check.due("ask(0, " + told + ") by " + LAWS[law], x.ask(0, told), when(gain, t, 1023));
                }
            }
        }
    }

    private static int when(Gain gain, int[] thing, int fitting) {
        int when = -1;
        int fewest = 11;
        for (int n = 1; n <= 24 && fitting != 0; n++) {
            int[] alike = new int[201];
            int most = 0;
            for (int d = 0; d <= 9; d++) {
                if ((fitting >> d & 1) == 1) {
                    most = Math.max(most, ++alike[value(gain, thing[0], thing[1], d, thing[2], n)]);
                }
            }
            if (most < fewest) {
                fewest = most;
                when = n;
            }
        }
        return when;
    }

    private static void askedNothingChanges() {
        BuriedGoods x = Check.field("s w3h2y3f1k9;rd5;tp0v20;tp4v30m9s1;tv40m2;tv5", "y:n+t");
        x.seen(0, 0, 3, 25, true);
        x.months(2);
        x.image();
        BuriedGoods y = Check.field("s w3h2y3f1k9;rd5;tp0v20;tp4v30m9s1;tv40m2;tv5", "y:n+t");
        y.seen(0, 0, 3, 25, true);
        y.months(2);
        y.image();
        x.grown(0, 99);
        x.ripeIn(1);
        x.best(0, 0);
        x.laying(24, 1);
        x.way();
        x.full();
        x.damps(0, 1);
        x.ask(0, 2);
        x.game(0, 1, 0, 1, 0);
        x.rests(0, 1, -1);
        x.safe(0, 1, 1);
        x.odds(0, 6, 20, 50);
        x.shares(0, 99);
        for (int what = 0; what < 12; what++) {
            x.most(what);
        }
        Check.same("asked, nothing changes", Check.seen(x), Check.seen(y));
        Check.same("nor what comes of it", Check.onward(x), Check.onward(y));
        Check.status(x, 0, 0, 0, 0, 0);
    }
}
