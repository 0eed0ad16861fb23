/** The bounds that Terms 2 names (promises 8, 9, 12 to 19, 21 to 23): places, plots, stakes, months, coins, acts, the log, STATUS. */
public final class EdgeActsTest {
    public static void main(String[] args) {
        plotsByRows();
        stakes();
        ripeAtItsYear();
        dampMoreThanStuff();
        byWholeYears();
        valueAtItsMostAndLeast();
        frost();
        ninetyNineMonths();
        asTheMonthBegan();
        whatLiesNowhereStays();
        lastMonth();
        logOfAMonth();
        logOfSixty();
        logUndoneWhole();
        laid();
        soldAtMost();
        bought();
        lowestPlace();
        lost();
        searched();
        given();
        eachIsOneAct();
        noActs();
        fortyActs();
        actsGoRound();
        undoneInTheirOrder();
        statusAddsUp();
        Check.finish("EdgeActsTest");
    }

    private static void row(String what, BuriedGoods x, int at, int... want) {
        for (int i = 0; i < want.length; i++) {
            Check.due(what + ": thing(" + at + ", " + i + ")", Check.thing(x, at, i), want[i]);
        }
    }

    /** A plot is its row times how wide, and its place in the row. */
    private static void plotsByRows() {
        for (int wide = 1; wide <= 6; wide++) {
            for (int p = 0; p < 4 * wide; p++) {
                BuriedGoods x = Check.field("sh4w" + wide + ";rd1;rd3;rd5;rd7;tv50", "y:d");
                Check.due("laid in " + p, x.lay(0, p), 29);
                Check.due("lies in " + p, x.lies(p), 0);
                Check.due("by how damp the row is", x.grown(0, 1), 50 + 1 + 2 * (p / wide));
                Check.due("the row", x.most(2), p / wide);
                Check.due("taken up from " + p, x.takes(0), p);
                Check.due("none lies in " + p, x.lies(p), -1);
            }
        }
    }

    private static void stakes() {
        BuriedGoods x = Check.field("tp0;tv5;tp3");
        Check.due("told so", x.thing(0, 4), 1);
        Check.due("lies nowhere", x.thing(1, 4), 0);
        x.lay(1, 1);
        Check.due("laid", x.thing(1, 4), 1);
        x.lose(1);
        Check.due("lost", x.thing(1, 4), 0);
        Check.due("still it lies", x.thing(1, 2), 1);
        x.months(1);
        Check.due("still lost", x.thing(1, 4), 0);
        x.search(1);
        Check.due("found", x.thing(1, 4), 1);
        x.takes(1);
        Check.due("taken up", x.thing(1, 4), 0);
        x.lay(1, 2);
        Check.due("laid again", x.thing(1, 4), 1);
        Check.due("the others' stakes", x.thing(0, 4) + x.thing(2, 4), 2);
    }

    private static void ripeAtItsYear() {
        for (int year = 1; year <= 24; year++) {
            BuriedGoods x = Check.field("s f0 y" + year + ";tm" + (year - 1) + ";tm" + year + ";tp0m" + (year - 1) + ";tp1m" + year);
            Check.due("ripe by a year of " + year, x.most(6), 10);
            Check.due("raw", x.sell(0), -1);
            Check.due("ripe", x.sell(1), 10);
            x.months(1);
            Check.due("ripe a month later", x.most(6), 12);
            Check.due("which became ripe", x.log(0, 2), 4);
            Check.due("raw as the month began", x.thing(2, 0), 12);
            Check.due("ripe as the month began", x.thing(3, 0), 9);
        }
    }

    private static void dampMoreThanStuff() {
        for (int damp = 0; damp <= 9; damp++) {
            for (int stuff = 0; stuff <= 5; stuff++) {
                BuriedGoods x = Check.field("rd" + damp + ";tp0s" + stuff);
                x.months(1);
                Check.due("damp " + damp + ", stuff " + stuff, x.thing(0, 0), damp > stuff ? 12 : 11);
            }
        }
    }

    private static void byWholeYears() {
        for (int year : new int[] {1, 2, 5, 12, 24}) {
            for (int lain = 0; lain <= 99; lain++) {
                BuriedGoods x = Check.field("s f0y" + year + ";rd0;tp0v50m" + lain);
                int less = lain < year ? -1 : Math.min(9, lain / year);
                x.months(1);
                Check.due("a year of " + year + ", it lay " + lain, x.thing(0, 0), 50 - less);
            }
        }
    }

    private static void valueAtItsMostAndLeast() {
        BuriedGoods x = Check.field("tp0v99;tp2v91;tp5v92", "y:9");
        Check.law(x, "y:1");
        x.months(11);
        row("198", x, 0, 198);
        x.months(1);
        row("200 at most", x, 0, 200);
        row("199", x, 1, 199);
        row("200 just so", x, 2, 200);
        Check.due("the log by what is held", x.log(0, 0), 599);
        x.law(1);
        x.months(1);
        row("200 stays", x, 0, 200);
        row("200 just so", x, 1, 200);
        x.months(1);
        row("200 stays", x, 1, 200);
        Check.due("apart, too", x.grown(1, 99), 200);
        BuriedGoods y = Check.field("tp0v9;tp2v8;tp5v10", "y:0-9");
        y.months(1);
        row("0 just so", y, 0, 0);
        row("0 at least", y, 1, 0);
        row("1", y, 2, 1);
        Check.due("the log by what is held", y.log(0, 0), 1);
        y.months(1);
        row("0 stays", y, 0, 0);
        row("0 at least", y, 2, 0);
        Check.due("apart, too", y.grown(0, 99), 0);
        BuriedGoods raw = Check.field("s y24f0;tp0v99");
        raw.months(24);
        row("147 without a law", raw, 0, 147);
        Check.due("0 without a law in the end", raw.grown(0, 99), 0);
    }

    private static void frost() {
        for (int frost = 0; frost <= 9; frost++) {
            BuriedGoods x = Check.field("s y24 f" + frost + ";tp0v99;tm5");
            int lain = 0;
            for (int month = 0; month < 27; month++) {
                Check.due("ripe in, frost " + frost + ", month " + month, x.ripeIn(0), ripeIn(lain, month, frost));
                x.months(1);
                lain += month % 12 < frost ? 2 : 1;
                Check.due("frost " + frost + ", month " + month, x.thing(0, 3), Math.min(99, lain));
                Check.due("nowhere there is no frost", x.thing(1, 3), 5);
            }
        }
    }

    private static int ripeIn(int lain, int month, int frost) {
        int n = 0;
        for (int l = lain; l < 24; n++) {
            l += (month + n) % 12 < frost ? 2 : 1;
        }
        return n;
    }

    private static void ninetyNineMonths() {
        BuriedGoods x = Check.field("s f1;tp0m96v99;tp2m97v99;tp5m98v99;tp7m99v99", "y:0");
        x.months(1);
        int[] frosty = {98, 99, 99, 99};
        for (int at = 0; at < 4; at++) {
            Check.due("behind a month of frost", x.thing(at, 3), frosty[at]);
        }
        x.months(1);
        for (int at = 0; at < 4; at++) {
            Check.due("99 at most", x.thing(at, 3), 99);
        }
        x.months(1);
        Check.due("99 stays", x.thing(0, 3), 99);
        BuriedGoods y = Check.field("s f0;tp0m97;tp2m98");
        y.months(1);
        Check.due("98", y.thing(0, 3), 98);
        Check.due("99", y.thing(1, 3), 99);
    }

    /** What a month makes of one thing hangs on nothing that it makes of another. */
    private static void asTheMonthBegan() {
        BuriedGoods x = Check.field("s w3h1f0y2;tp0v50m1;tp1v60m1;tp2v70m1", "y:v/10+m*0+n");
        x.months(1);
        int[] due = {56, 68, 78};
        for (int at = 0; at < 3; at++) {
            Check.due("value of " + at, x.thing(at, 0), due[at]);
        }
        x.months(1);
        int[] then = {62, 76, 86};
        for (int at = 0; at < 3; at++) {
            Check.due("then the value of " + at, x.thing(at, 0), then[at]);
        }
        BuriedGoods m = Check.field("s f9;tp0v50m4", "y:m");
        m.months(1);
        Check.due("how many months it lay as the month began", m.thing(0, 0), 54);
        m.months(1);
        Check.due("and then", m.thing(0, 0), 60);
    }

    private static void whatLiesNowhereStays() {
        BuriedGoods x = Check.field("tv7s2m3;tp0", "y:9");
        x.months(60);
        row("as it was", x, 0, 7, 2, -1, 3, 0);
        Check.due("alone in the log", x.log(0, 1), 1);
        x.years(60, 1L);
        row("as it was", x, 0, 7, 2, -1, 3, 0);
    }

    private static void lastMonth() {
        BuriedGoods x = Check.field("tp0v99", "y:1");
        int month = 0;
        for (int i = 0; i < 16; i++) {
            month += 60;
            Check.due("months(60)", x.months(60), month);
        }
        Check.due("40 would be one too many", x.months(40), -1);
        Check.due("none of them goes by", x.count(5), 960);
        Check.due("39", x.months(39), 999);
        Check.due("none goes by then", x.months(1), -1);
        Check.due("nor by draws", x.years(1, 1L), -1);
        Check.status(x, 0, 0, 0, 0, 2);
        Check.due("still 999", x.count(5), 999);
        Check.due("forty acts at most", x.count(9), 40);
        Check.due("an act is undone", x.undo(), 39);
        Check.due("998", x.count(5), 998);
        Check.due("two are too many", x.months(2), -1);
        Check.due("two are too many by draws", x.years(2, 1L), -1);
        Check.due("one by draws", x.years(1, 1L), 999);
        Check.due("the image of 999", x.image(), 999);
        x.undo();
        Check.due("one by hand", x.months(1), 999);
        x.undo();
        Check.due("back to 999", x.back(), 999);
        Check.due("none goes by then", x.months(1), -1);
        Check.due("coins can be given", x.give(1), 31);
        Check.due("and taken up", x.takes(0), 0);
        Check.status(x, 0, 0, 0, 0, 4);
    }

    private static void logOfAMonth() {
        BuriedGoods x = Check.field("s w4h2y3f0;tp0m2v10;tp1m2v20;tp2m1v30;tp3m9v40;tp4v50;tp5m2v60;tp6m3v70;tp7m2v80", "y:2");
        Check.due("no log at first", x.count(8), 0);
        Check.due("no log at first", x.log(0, 0), -1);
        x.lose(0);
        x.takes(1);
        x.months(1);
        int[] first = {10 + 30 + 40 + 50 + 60 + 70 + 80 + 14, 7, 1 | 32 | 128};
        for (int what = 0; what < 3; what++) {
            Check.due("log(0, " + what + ")", x.log(0, what), first[what]);
        }
        x.months(1);
        Check.due("only those that became so in it", x.log(0, 2), 4);
        Check.due("ahead of it", x.log(1, 2), 161);
        Check.due("how long", x.count(8), 2);
        for (int at = 2; at < 8; at++) {
            x.takes(at);
        }
        x.search(0);
        x.takes(0);
        x.months(1);
        for (int what = 0; what < 3; what++) {
            Check.due("log(0, " + what + ") while none lies", x.log(0, what), 0);
        }
    }

    /** The latest sixty: the sixty-first leaves the first out, an undone one brings it back. */
    private static void logOfSixty() {
        BuriedGoods x = Check.field("tp0v1", "y:1");
        x.months(59);
        Check.due("59", x.count(8), 59);
        Check.due("the 60th is none", x.log(59, 0), -1);
        x.months(1);
        Check.due("60", x.count(8), 60);
        Check.due("the latest", x.log(0, 0), 61);
        Check.due("the first", x.log(59, 0), 2);
        Check.due("log(60)", x.log(60, 0), -1);
        x.months(1);
        Check.due("60 still", x.count(8), 60);
        for (int i = 0; i < 60; i++) {
            Check.due("log(" + i + ")", x.log(i, 0), 62 - i);
        }
        Check.due("log(60)", x.log(60, 0), -1);
        x.undo();
        Check.due("the first again", x.log(59, 0), 2);
        Check.due("60 again", x.count(8), 60);
        x.undo();
        Check.due("59 again", x.count(8), 59);
        Check.due("the 60th is none", x.log(59, 0), -1);
        x.months(60);
        x.months(13);
        for (int i = 0; i < 60; i++) {
            Check.due("log(" + i + ") later", x.log(i, 0), 133 - i);
        }
    }

    /** What sixty months ahead was logged is there again when a later one is undone or gone back behind: all three numbers. */
    private static void logUndoneWhole() {
        BuriedGoods x = Check.field("s y2f0k99w4h2;tp0v10;tp1v20;tp2v30m1;t v5", "y:1");
        x.months(1);
        x.takes(0);
        x.months(1);
        x.lay(3, 5);
        x.months(2);
        int[][] first = {{63, 3, 4}, {54, 2, 2}, {62, 3, 0}, {65, 3, 8}};
        x.months(55);
        x.months(1);
        for (int i = 0; i < 4; i++) {
            for (int what = 0; what < 3; what++) {
                Check.due("log(" + (59 - i) + ", " + what + ")", x.log(59 - i, what), first[i][what]);
            }
        }
        Check.due("image", x.image(), 60);
        x.takes(1);
        x.takes(2);
        x.takes(3);
        x.months(6);
        Check.due("none lies", x.log(0, 1), 0);
        for (int i = 0; i < 9; i++) {
            x.undo();
        }
        Check.due("month 60", x.count(5), 60);
        for (int i = 0; i < 4; i++) {
            for (int what = 0; what < 3; what++) {
                Check.due("undone: log(" + (59 - i) + ", " + what + ")", x.log(59 - i, what), first[i][what]);
            }
        }
        x.takes(1);
        x.takes(2);
        x.months(7);
        Check.due("one lies", x.log(0, 1), 1);
        x.back();
        for (int i = 0; i < 4; i++) {
            for (int what = 0; what < 3; what++) {
                Check.due("back: log(" + (59 - i) + ", " + what + ")", x.log(59 - i, what), first[i][what]);
            }
        }
    }

    private static void laid() {
        BuriedGoods x = Check.field("s w2h1k2;tm7v9s3;t;t");
        Check.due("the second last coin", x.lay(0, 1), 1);
        row("laid", x, 0, 9, 3, 1, 7, 1);
        Check.due("the last coin", x.lay(1, 0), 0);
        Check.due("the field is full", x.most(8), 0);
        Check.due("taken", x.lay(2, 0), -1);
        x.months(1);
        Check.due("it goes on", x.thing(0, 3), 9);
        x.takes(0);
        Check.due("no coin", x.lay(2, 1), -1);
        Check.status(x, 0, 0, 1, 1, 0);
        Check.due("a coin", x.give(1), 1);
        Check.due("free again", x.lay(2, 1), 0);
    }

    private static void soldAtMost() {
        int[] coins = {998, 999, 999, 999};
        for (int i = 0; i < 4; i++) {
            BuriedGoods x = Check.field("sk99y1;tm1v48;tm1v49;tm1v50;tm1v99");
            for (int k = 0; k < 17; k++) {
                x.give(50);
            }
            x.give(1);
            Check.due("as many as it is worth", x.sell(i), i < 3 ? 48 + i : 99);
            Check.due("999 at most", x.rule(4), coins[i]);
            Check.due("its place has none", Check.thing(x, i, 0), Check.THROWN);
            Check.due("again", x.sell(i), -1);
            Check.status(x, 1, 0, 0, 0, 0);
            x.undo();
            Check.due("coins again", x.rule(4), 950);
            row("again", x, i, i < 3 ? 48 + i : 99, 0, -1, 1, 0);
        }
        BuriedGoods nothing = Check.field("sk5y1;tp0v1m1", "y:0-9");
        nothing.months(1);
        nothing.takes(0);
        Check.due("worth nothing", nothing.sell(0), 0);
        Check.due("no coins more", nothing.rule(4), 5);
        Check.due("no thing", nothing.count(1), 0);
    }

    private static void bought() {
        for (int value = 1; value <= 30; value++) {
            for (int stuff = 0; stuff <= 5; stuff++) {
                BuriedGoods x = Check.field("sk15");
                Check.due("buy(" + value + ", " + stuff + ")", x.buy(value, stuff), 0);
                Check.due("half as many coins, cut up", 15 - x.rule(4), (value + 1) / 2);
                row("bought", x, 0, value, stuff, -1, 0, 0);
            }
        }
        BuriedGoods eight = Check.field("s");
        for (int at = 0; at < 8; at++) {
            Check.due("place " + at, eight.buy(1 + at, at % 6), at);
        }
        Check.due("no place", eight.buy(1, 0), -1);
        Check.due("paid for eight", eight.rule(4), 30 - 1 - 1 - 2 - 2 - 3 - 3 - 4 - 4);
        Check.status(eight, 0, 0, 0, 1, 0);
        Check.due("told still", eight.count(0), 0);
        Check.due("eight there are", eight.count(1), 8);
    }

    private static void lowestPlace() {
        BuriedGoods x = Check.field("s y1k99;tm1;tm1;tm1;tm1;tm1;tm1;tm1;tm1");
        for (int at = 7; at >= 0; at--) {
            x.sell(at);
            Check.due("the only one with none", x.buy(3, 1), at);
            x.undo();
        }
        for (int at = 0; at < 8; at++) {
            Check.due("the lowest with none", x.buy(2, 1), at);
        }
    }

    private static void lost() {
        BuriedGoods x = Check.field("s k0;tp0;tp11");
        Check.due("for nothing", x.lose(1), 11);
        Check.due("no coin is needed", x.rule(4), 0);
        Check.due("once", x.lose(1), -1);
        Check.due("not taken up", x.takes(1), -1);
        Check.due("the other one is", x.takes(0), 0);
        Check.due("nor lost where it lies nowhere", x.lose(0), -1);
        Check.status(x, 0, 0, 1, 2, 0);
    }

    private static void searched() {
        BuriedGoods x = Check.field("s k4w2h1;tp1;tv7");
        x.lose(0);
        Check.due("none lies there", x.search(0), -1);
        Check.due("the coin is gone", x.rule(4), 3);
        Check.due("it has one again", x.search(1), 0);
        Check.due("the coin is gone", x.rule(4), 2);
        Check.due("it has one already", x.search(1), -1);
        Check.due("the coin is gone", x.rule(4), 1);
        Check.due("STATUS counts nothing", x.status(0) + x.status(1) + x.status(2) + x.status(3) + x.status(4), 0);
        Check.due("each is an act", x.count(9), 4);
        Check.due("the last coin", x.search(0), -1);
        Check.due("no coin", x.search(0), -1000000);
        Check.due("no coin", x.search(1), -1000000);
        Check.due("no such plot", x.search(2), -1000000);
        Check.status(x, 0, 1, 0, 2, 0);
        Check.due("undone", x.undo(), 4);
        Check.due("the coin is there again", x.rule(4), 1);
    }

    private static void given() {
        for (int n = 1; n <= 50; n++) {
            BuriedGoods x = Check.field("sk99");
            Check.due("give(" + n + ")", x.give(n), 99 + n);
            Check.due("coins", x.rule(4), 99 + n);
        }
        BuriedGoods x = Check.field("sk99");
        for (int i = 1; i <= 18; i++) {
            Check.due("give(50)", x.give(50), 99 + 50 * i);
        }
        Check.due("999 and no more", x.give(1), -1);
        Check.due("999", x.rule(4), 999);
    }

    private static BuriedGoods beforeActs() {
        BuriedGoods x = Check.field("s y2k9;tp0v20;tm2v7;tp1;tp2");
        x.lose(3);
        return x;
    }

    private static void act(BuriedGoods x, int which) {
        switch (which) {
            case 0: Check.due("months", x.months(1), 1); break;
            case 1: Check.due("lay", x.lay(1, 5), 8); break;
            case 2: Check.due("takes", x.takes(0), 0); break;
            case 3: Check.due("sell", x.sell(1), 7); break;
            case 4: Check.due("buy", x.buy(3, 1), 4); break;
            case 5: Check.due("lose", x.lose(0), 0); break;
            case 6: Check.due("search", x.search(2), 3); break;
            case 7: Check.due("search in vain", x.search(7), -1); break;
            case 8: Check.due("give", x.give(5), 14); break;
            default: Check.due("years", x.years(1, 77L), 1); break;
        }
    }

    /** Each of them is one act, and undone all is as it was. */
    private static void eachIsOneAct() {
        for (int which = 0; which < 10; which++) {
            BuriedGoods x = beforeActs();
            BuriedGoods twin = beforeActs();
            act(x, which);
            Check.due("one act more, " + which, x.count(9), 2);
            Check.due("undone, " + which, x.undo(), 1);
            Check.same("as it was, " + which, Check.seen(x), Check.seen(twin));
            Check.same("and goes on as it did, " + which, Check.onward(x), Check.onward(twin));
        }
        BuriedGoods months = beforeActs();
        months.months(7);
        Check.due("each month is an act", months.count(9), 8);
        months.years(6, 1L);
        Check.due("each month by draws, too", months.count(9), 14);
        Check.due("undone", months.undo(), 13);
        Check.due("one month", months.count(5), 12);
    }

    private static void noActs() {
        BuriedGoods x = beforeActs();
        Check.law(x, "y:1");
        x.law(0);
        x.moles(5);
        x.seen(0, 0, 1, 1, true);
        x.image();
        Check.feed(x, "t");
        x.end(1);
        x.months(0);
        x.lay(9, 0);
        x.sell(0);
        x.years(0, 1L);
        x.grown(0, 9);
        x.laying(3, 0);
        x.odds(0, 2, 5, 50);
        Check.due("one act still", x.count(9), 1);
        Check.due("it is undone", x.undo(), 0);
        Check.due("its stake", x.thing(3, 4), 1);
        int[] counts = {4, 4, 1, 1, 0, 0, 5, 1, 0, 0};
        for (int what = 0; what < 10; what++) {
            Check.due("count(" + what + ") is not undone", x.count(what), counts[what]);
        }
        Check.status(x, 1, 1, 1, 0, 0);
        Check.due("none is left", x.undo(), -1);
    }

    private static void fortyActs() {
        BuriedGoods x = Check.field("sk0");
        for (int i = 1; i <= 39; i++) {
            x.give(1);
            Check.due("acts", x.count(9), i);
        }
        x.give(1);
        Check.due("forty", x.count(9), 40);
        x.give(1);
        Check.due("forty at most", x.count(9), 40);
        for (int i = 39; i >= 0; i--) {
            Check.due("undo", x.undo(), i);
            Check.due("coins", x.rule(4), i + 1);
        }
        Check.due("the first can't be undone", x.undo(), -1);
        Check.due("its coin stays", x.rule(4), 1);
        BuriedGoods y = Check.field("sk0");
        for (int i = 0; i < 40; i++) {
            y.give(1);
        }
        for (int i = 39; i >= 0; i--) {
            Check.due("undo", y.undo(), i);
        }
        Check.due("all forty", y.rule(4), 0);
        Check.due("none", y.undo(), -1);
    }

    /** Acts and undone ones by turns, so that what is kept goes round. */
    private static void actsGoRound() {
        BuriedGoods x = Check.field("sk0");
        int[] coins = new int[500];
        int top = 0;
        int acts = 0;
        for (int step = 0; step < 150; step++) {
            int give = 1 + step % 3;
            Check.due("give", x.give(give), coins[top] + give);
            coins[top + 1] = coins[top] + give;
            top++;
            acts = Math.min(40, acts + 1);
            if (step % 7 == 6) {
                for (int i = 0; i < 3; i++) {
                    top--;
                    acts--;
                    Check.due("undo at " + step, x.undo(), acts);
                    Check.due("coins at " + step, x.rule(4), coins[top]);
                }
            }
        }
        while (acts > 0) {
            top--;
            acts--;
            Check.due("undo", x.undo(), acts);
            Check.due("coins", x.rule(4), coins[top]);
        }
        Check.due("none", x.undo(), -1);
        Check.due("coins", x.rule(4), coins[top]);
    }

    private static void undoneInTheirOrder() {
        BuriedGoods x = Check.field("s y1f0w2h1k20;tp0v20m5;tm1v8", "y:1");
        x.months(2);
        x.takes(0);
        x.sell(0);
        x.buy(9, 4);
        x.lay(0, 1);
        x.months(1);
        row("the bought one", x, 0, 10, 4, 1, 1, 1);
        Check.due("coins", x.rule(4), 20 + 22 - 5 - 1);
        x.undo();
        row("a month ahead", x, 0, 9, 4, 1, 0, 1);
        Check.due("the log", x.count(8), 2);
        x.undo();
        row("not laid", x, 0, 9, 4, -1, 0, 0);
        Check.due("its coin", x.rule(4), 37);
        x.undo();
        Check.due("not bought", Check.thing(x, 0, 0), Check.THROWN);
        Check.due("its coins", x.rule(4), 42);
        x.undo();
        row("not sold", x, 0, 22, 0, -1, 7, 0);
        Check.due("its coins", x.rule(4), 20);
        x.undo();
        row("not taken up", x, 0, 22, 0, 0, 7, 1);
        Check.due("one act is another's end", x.undo(), 1);
        row("a month ahead", x, 0, 21, 0, 0, 6, 1);
        Check.due("the log", x.log(0, 0), 21);
        x.give(3);
        Check.due("a new act instead", x.count(9), 2);
        x.undo();
        x.undo();
        row("as told", x, 0, 20, 0, 0, 5, 1);
        Check.due("no log", x.count(8), 0);
        Check.due("month 0", x.count(5), 0);
    }

    private static void statusAddsUp() {
        BuriedGoods x = Check.field("s k0;tp0;t");
        for (int i = 1; i <= 30; i++) {
            x.takes(7);
            x.give(0);
            x.takes(1);
            x.lay(1, 1);
            x.search(1);
            x.sell(1);
        }
        Check.status(x, 30, 30, 30, 90, 0);
        x.give(5);
        x.undo();
        x.image();
        x.give(1);
        x.back();
        Check.status(x, 30, 30, 30, 90, 0);
        Check.feed(x, "t");
        x.text(0);
        Check.status(x, 30, 30, 30, 90, 0);
        BuriedGoods fresh = new BuriedGoods();
        Check.status(fresh, 0, 0, 0, 0, 0);
        Check.due("no fifth", fresh.status(5), -1);
    }
}
