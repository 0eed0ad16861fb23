/** Promises 24 to 32: grown, ripeIn, best, laying, way, full, seen, damps, ask. */
public final class FutureTest {
    public static void main(String[] args) {
        withoutField();
        grown();
        ripening();
        best();
        laying();
        layingOfSeveral();
        way();
        seeing();
        asking();
        heldWithoutLaw();
        Check.finish("FutureTest");
    }

    private static void withoutField() {
        BuriedGoods x = new BuriedGoods();
        Check.due("grown", x.grown(0, 0), -1);
        Check.due("ripeIn", x.ripeIn(0), -1);
        Check.due("best", x.best(0, 0), -1);
        Check.due("laying", x.laying(1, 0), -1);
        Check.due("way", x.way(), -1);
        Check.due("full", x.full(), -1);
        Check.due("seen", x.seen(0, 0, 1, 0, true), -1);
        Check.due("damps", x.damps(0, -1), -1);
        Check.due("ask", x.ask(0, 0), -1);
    }

    private static void grown() {
        BuriedGoods x = Check.field("sw2h1y3f0; rd5; tp0v10s5; tp1v10s4; tv7m50");
        int[] first = {10, 11, 12, 13, 12, 11, 10, 8, 6, 4, 1, 0, 0};
        for (int n = 0; n < first.length; n++) {
            Check.due("grown(0, " + n + ")", x.grown(0, n), first[n]);
        }
        Check.due("more damp", x.grown(1, 3), 16);
        Check.due("lies nowhere", x.grown(2, 99), 7);
        Check.due("99", x.grown(0, 99), 0);
        Check.due("100", x.grown(0, 100), -1);
        Check.due("-1", x.grown(0, -1), -1);
        Check.due("none there", x.grown(3, 0), -1);
        Check.due("no such place", x.grown(-1, 0), -1);
        Check.due("lies nowhere, out of bounds", x.grown(2, 100), -1);
        Check.due("nothing has changed", x.count(5), 0);
        BuriedGoods y = Check.field("s w2h1; tp0;tp1", "y:n+t");
        Check.due("with those beside", y.grown(0, 3), 16);
        y.months(11);
        Check.due("the month goes round", y.grown(0, 2), Check.thing(y, 0, 0) + 9 + 1);
    }

    private static void ripening() {
        BuriedGoods x = Check.field("sy7f2; tp0; tp1m6; tp2m7; tm3; tp3m99");
        Check.due("in the frost", x.ripeIn(0), 5);
        Check.due("next month", x.ripeIn(1), 1);
        Check.due("ripe", x.ripeIn(2), 0);
        Check.due("lies nowhere", x.ripeIn(3), -1);
        Check.due("ripe long since", x.ripeIn(4), 0);
        Check.due("none there", x.ripeIn(5), -1);
        Check.due("no such place", x.ripeIn(8), -1);
        Check.due("full", x.full(), 5);
        x.months(11);
        x.lay(3, 5);
        Check.due("one of frost and two ahead", x.ripeIn(3), 3);
        Check.due("full", x.full(), 3);
        x.months(3);
        Check.due("all ripe", x.full(), 0);
        BuriedGoods y = Check.field("t");
        Check.due("none lies", y.full(), -1);
        BuriedGoods z = Check.field("sy24f0;tp0");
        Check.due("24 months", z.ripeIn(0), 24);
        Check.due("24 months", z.full(), 24);
    }

    private static void best() {
        BuriedGoods x = Check.field("sy3f0;rd9;tp0v10;tp1v10m3;t");
        Check.due("when", x.best(0, 0), 3);
        Check.due("value", x.best(0, 1), 16);
        Check.due("now", x.best(1, 0), 0);
        Check.due("value", x.best(1, 1), 10);
        Check.due("lies nowhere", x.best(2, 0), -1);
        Check.due("none there", x.best(3, 1), -1);
        Check.due("no such what", x.best(0, 2), -1);
        Check.due("no such what", x.best(0, -1), -1);
        BuriedGoods flat = Check.field("sy3f0;tp0v10", "y:0");
        Check.due("the fewest of several", flat.best(0, 0), 3);
        BuriedGoods rising = Check.field("sy3f0;tp0v10", "y:1");
        Check.due("within 60", rising.best(0, 0), 60);
        Check.due("within 60", rising.best(0, 1), 70);
        BuriedGoods late = Check.field("sy3f0;tp0v10m1", "y:t=0?9;y:0-5");
        Check.due("not while it is raw", late.best(0, 0), 2);
        Check.due("not while it is raw", late.best(0, 1), 14);
    }

    private static void laying() {
        BuriedGoods x = Check.field("sw2h2y9f0k0; rd1;rd5; tp2; tv20s3; tv30s0; tm9v40; t v50s5", "y:d-s");
        // Row 1 has one free plot, row 0 two.
        Check.due("how much", x.laying(2, 0), 20 + 30 + 2 + 40 + 10 + 50);
        Check.due("where", x.laying(2, 1), 99019999);
        BuriedGoods y = Check.field("sw1h1y9f0k0;rd1; tv20; tv20; tv20", "y:1");
        Check.due("one of three", y.laying(3, 0), 63);
        Check.due("the first left out has the least row", y.laying(3, 1), 9999999 + 0);
        BuriedGoods none = Check.field("tp0;tp1");
        Check.due("nothing to lay", none.laying(1, 0), 0);
        Check.due("nothing to lay", none.laying(1, 1), 99999999);
        BuriedGoods lost = Check.field("t", "y:0-1");
        Check.due("left out", lost.laying(24, 0), 10);
        Check.due("left out", lost.laying(24, 1), 99999999);
        BuriedGoods even = Check.field("t", "y:0");
        Check.due("the least of several", even.laying(24, 1), 9999999);
        Check.due("n 0", even.laying(0, 0), -1);
        Check.due("n 25", even.laying(25, 0), -1);
        Check.due("what 2", even.laying(1, 2), -1);
        Check.due("what -1", even.laying(1, -1), -1);
        BuriedGoods alone = Check.field("sw3h1;tp0;tp2;t", "y:n*9");
        Check.due("as if alone", alone.laying(5, 0), 10);
        BuriedGoods later = Check.field("t", "y:t");
        later.months(9);
        Check.due("from this month on", later.laying(4, 0), 10 + 9 + 9 + 9 + 0);
    }

    private static void layingOfSeveral() {
        BuriedGoods x = Check.field("sw6h4y24f0k9;rd9;rd7;rd5;rd3;t;t;t;t;t;t;t;t", "y:d");
        Check.due("eight, six in the dampest", x.laying(1, 0), 80 + 6 * 9 + 2 * 7);
        Check.due("the first ones first", x.laying(1, 1), 11);
        BuriedGoods y = Check.field("sw1h4y24f0k9;rd1;rd2;rd3;rd4;tv1s4;tv2s3;tv3s2;tv4s1;tv5s5", "y:s*d/2");
        int best = 0;
        int digits = 0;
        for (int code = 0; code < 3125; code++) {
            int[] d = {code / 625, code / 125 % 5, code / 25 % 5, code / 5 % 5, code % 5};
            int[] stuff = {4, 3, 2, 1, 5};
            int used = 0;
            int sum = 0;
            int row = 0;
            boolean may = true;
            for (int i = 0; i < 5; i++) {
                may &= d[i] == 4 || (used >> d[i] & 1) == 0;
                used |= d[i] == 4 ? 0 : 1 << d[i];
                sum += i + 1 + (d[i] == 4 ? 0 : Math.min(9, stuff[i] * (d[i] + 1) / 2));
                row = row * 10 + (d[i] == 4 ? 9 : d[i]);
            }
            if (may && (sum > best || sum == best && row < digits)) {
                best = sum;
                digits = row;
            }
        }
        Check.due("how much", y.laying(1, 0), best);
        Check.due("the row", y.laying(1, 1), digits * 1000 + 999);
    }

    private static void way() {
        BuriedGoods x = Check.field("sw4h3y5;tp11m5;tp3m5;tp0m9;tp8m4;tm9");
        Check.due("by the corners", x.way(), 10);
        x.lose(0);
        Check.due("without a stake it's not gone to", x.way(), 6);
        x.lose(1);
        Check.due("only plot 0", x.way(), 0);
        x.months(1);
        Check.due("ripe now", x.way(), 4);
        x.takes(2);
        Check.due("still", x.way(), 4);
        x.takes(3);
        Check.due("none is ripe so", x.way(), 0);
        BuriedGoods y = Check.field("sw6h4y1;tp5m1;tp18m1;tp23m1;tp7m1;tp10m1;tp13m1;tp16m1;tp2m1");
        Check.due("eight stops", y.way(), 20);
        BuriedGoods line = Check.field("sw1h4y1;tp3m1;tp1m1");
        Check.due("a line", line.way(), 6);
    }

    private static void seeing() {
        BuriedGoods x = Check.field("s w2h2y3f0; rd5; tp0v10s4; tp1v10s0m3");
        Check.due("ten may be", x.damps(0, -1), 10);
        Check.due("more", x.seen(0, 0, 2, 14, true), 1);
        Check.due("five may be", x.damps(0, -1), 5);
        for (int i = 0; i < 5; i++) {
            Check.due("damps", x.damps(0, i), 5 + i);
        }
        Check.due("no sixth", x.damps(0, 5), -1);
        Check.due("i -2", x.damps(0, -2), -1);
        Check.due("of another row", x.damps(1, -1), 10);
        Check.due("no such row", x.damps(2, -1), -1);
        Check.due("no such row", x.damps(-1, -1), -1);
        x.months(5);
        x.takes(0);
        Check.due("as told, from month 0", x.damps(0, -1), 5);
        Check.due("less", x.seen(0, 1, 2, 14, false), 2);
        Check.due("five may be", x.damps(1, -1), 5);
        Check.due("the first", x.damps(1, 0), 0);
        Check.due("against it", x.seen(0, 1, 1, 12, true), 3);
        Check.due("none fits", x.damps(1, -1), 0);
        Check.due("none fits", x.damps(1, 0), -1);
        Check.due("nothing fits", x.ask(1, 0), -1);
        String before = Check.seen(x);
        int[][] wrong = {{2, 0, 1, 0}, {-1, 0, 1, 0}, {0, 2, 1, 0}, {0, -1, 1, 0}, {0, 0, 0, 0}, {0, 0, 25, 0},
            {0, 0, 1, -1}, {0, 0, 1, 201}};
        for (int[] c : wrong) {
            Check.due("seen", x.seen(c[0], c[1], c[2], c[3], true), -1);
        }
        Check.same("refused", Check.seen(x), before);
        Check.due("bounds", x.seen(1, 0, 24, 200, false), 4);
        Check.due("bounds", x.seen(1, 0, 1, 0, true), 5);
        for (int i = 6; i <= 10; i++) {
            Check.due("seen", x.seen(1, 0, 1, 0, true), i);
        }
        Check.due("there are ten", x.seen(1, 0, 1, 0, true), -1);
        Check.due("ten", x.count(7), 10);
    }

    private static void asking() {
        BuriedGoods x = Check.field("s w2h2y24f0; tp0v10s4; tv99s4", "y:d");
        Check.due("each shows at once", x.ask(0, 0), 1);
        Check.due("most are the same by 200, less so at once", x.ask(0, 1), 1);
        Check.law(x, "y:d/2");
        x.law(1);
        Check.due("two alike at any time", x.ask(0, 0), 1);
        Check.law(x, "y:t=4?d;y:t=2?d/5");
        x.law(2);
        Check.due("behind the fifth month", x.ask(0, 0), 5);
        x.seen(0, 0, 3, 11, true);
        Check.due("five may be", x.damps(0, -1), 5);
        Check.due("still behind the fifth", x.ask(0, 0), 5);
        BuriedGoods late = Check.field("sf0;t", "y:m=23?d");
        Check.due("behind the last", late.ask(0, 0), 24);
        Check.law(x, "y:0");
        x.law(3);
        Check.due("no such fits now", x.ask(0, 0), -1);
        Check.due("all the same in another row", x.ask(1, 0), 1);
        Check.due("no such row", x.ask(2, 0), -1);
        Check.due("no such thing", x.ask(0, 2), -1);
        Check.due("no such thing", x.ask(0, -1), -1);
    }

    /** A thing that lay ten years or more has 9 less a month, apart, too. */
    private static void heldWithoutLaw() {
        BuriedGoods x = Check.field("s w2h1y1f0; tp0v90m9; tp1v90m40; tv90m40");
        int[] held = {90, 81, 72, 63, 54, 45, 36, 27, 18, 9, 0, 0};
        for (int n = 0; n < held.length; n++) {
            Check.due("grown behind nine years", x.grown(0, n), held[n]);
            Check.due("grown behind forty", x.grown(1, n), held[n]);
        }
        Check.due("by odds", x.odds(1, 2, 72, 0), 1000000000);
        Check.due("by odds", x.odds(1, 2, 73, 0), 0);
        Check.due("by odds with a mole", x.odds(1, 1, 36, 100), 1000000000);
        Check.due("best now", x.best(1, 1), 90);
        Check.due("left out", x.laying(1, 0), 90);
        x.seen(2, 0, 3, 63, true);
        x.seen(2, 0, 3, 64, false);
        Check.due("so it was seen", x.damps(0, -1), 10);
        x.seen(2, 0, 10, 1, true);
        Check.due("not so", x.damps(0, -1), 0);
    }
}
