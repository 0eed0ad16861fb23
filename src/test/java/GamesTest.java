/** Promises 33 to 38 and 41: games, rests, safe, odds, shares, most, count. */
public final class GamesTest {
    private static final int HIDDEN = -1000000;

    public static void main(String[] args) {
        withoutField();
        game();
        rests();
        safe();
        odds();
        oddsCutPartByPart();
        shares();
        most();
        mostOfNothing();
        count();
        Check.finish("GamesTest");
    }

    private static void withoutField() {
        BuriedGoods x = new BuriedGoods();
        Check.due("game", x.game(0, 1, 0, 0, 0), HIDDEN);
        Check.due("rests", x.rests(0, 1, -1), -1);
        Check.due("safe", x.safe(0, 1, 0), HIDDEN);
        Check.due("odds", x.odds(0, 0, 0, 0), -1);
        Check.due("shares", x.shares(0, 0), -1);
        Check.due("most", x.most(4), -1);
    }

    private static void game() {
        BuriedGoods x = Check.field("tp0v40;t;tp1v7");
        int[][] due = {{0, 0, 5, -5}, {0, 1, -7, 7}, {1, 0, -41, 40}, {1, 1, 4, -5}};
        for (int[] d : due) {
            Check.due("merchant " + d[0] + d[1], x.game(0, 2, d[0], d[1], 0), d[2]);
            Check.due("thief " + d[0] + d[1], x.game(0, 2, d[0], d[1], 1), d[3]);
        }
        Check.due("the other way", x.game(2, 0, 1, 0, 0), -8);
        int[][] wrong = {{0, 1, 0, 0, 0}, {1, 0, 0, 0, 0}, {0, 0, 0, 0, 0}, {0, 3, 0, 0, 0}, {-1, 0, 0, 0, 0}, {0, 8, 0, 0, 0},
            {0, 2, 2, 0, 0}, {0, 2, -1, 0, 0}, {0, 2, 0, 2, 0}, {0, 2, 0, -1, 0}, {0, 2, 0, 0, 2}, {0, 2, 0, 0, -1}};
        for (int[] c : wrong) {
            Check.due("no game", x.game(c[0], c[1], c[2], c[3], c[4]), HIDDEN);
        }
    }

    private static void rests() {
        BuriedGoods x = Check.field("tp0v40;t;tp1v7;tp2v1;tp3v1", "y:0-9");
        // The thief always has more where none guards, the merchant where he digs: it never rests.
        Check.due("rests", x.rests(0, 2, -1), 0);
        Check.due("rests", x.rests(3, 4, -1), 0);
        Check.due("the first", x.rests(0, 2, 0), -1);
        Check.due("i -2", x.rests(0, 2, -2), -1);
        Check.due("alike", x.rests(0, 0, -1), -1);
        Check.due("lies nowhere", x.rests(0, 1, -1), -1);
        Check.due("none there", x.rests(0, 5, -1), -1);
        Check.due("none there", x.rests(-1, 0, -1), -1);
        x.months(20);
        Check.due("of nothing worth", x.rests(0, 2, -1), 0);
    }

    private static void safe() {
        BuriedGoods x = Check.field("tp0v10;tp1v20;t;tp2v10", "y:0-9");
        Check.due("g", x.safe(0, 1, 0), 37);
        Check.due("the greater", x.safe(0, 1, 1), 445);
        Check.due("alike worth", x.safe(0, 3, 0), 50);
        Check.due("alike worth", x.safe(0, 3, 1), 250);
        Check.due("the other way", x.safe(1, 0, 0), 63);
        Check.due("the other way", x.safe(1, 0, 1), 445);
        BuriedGoods even = Check.field("tp0v1;tp1v90");
        Check.due("the least of several", even.safe(0, 1, 0), 5);
        Check.due("by both the same", even.safe(0, 1, 1), 70);
        int[][] wrong = {{0, 0, 0}, {0, 2, 0}, {2, 0, 1}, {0, 4, 0}, {0, 1, 2}, {0, 1, -1}, {-1, 1, 0}, {1, 8, 0}};
        for (int[] c : wrong) {
            Check.due("not safe", x.safe(c[0], c[1], c[2]), HIDDEN);
        }
        x.months(9);
        Check.due("of nothing worth", x.safe(0, 1, 1), -250);
        Check.due("of nothing worth", x.safe(0, 1, 0), 50);
    }

    private static void odds() {
        BuriedGoods x = Check.field("s w2h1y24f0;rd0; tp0v11; tv9; tp1v3s0", "y:2");
        Check.due("no months", x.odds(0, 0, 11, 100), 1000000000);
        Check.due("no months", x.odds(0, 0, 12, 0), 0);
        Check.due("surely not halved", x.odds(0, 1, 13, 0), 1000000000);
        Check.due("surely halved", x.odds(0, 1, 7, 100), 1000000000);
        Check.due("halved ahead of the month", x.odds(0, 1, 8, 100), 0);
        Check.due("by chance", x.odds(0, 1, 8, 30), 700000000);
        Check.due("two months, 15 with none", x.odds(0, 2, 15, 30), 490000000);
        Check.due("two months, 9 with the first", x.odds(0, 2, 9, 30), 490000000 + 210000000);
        Check.due("two months, 8 with the second", x.odds(0, 2, 8, 30), 490000000 + 210000000 + 210000000);
        Check.due("two months, 5 with both", x.odds(0, 2, 5, 30), 1000000000);
        Check.due("nothing changes", Check.thing(x, 0, 0), 11);
        int[][] wrong = {{1, 0, 0, 0}, {3, 0, 0, 0}, {-1, 0, 0, 0}, {8, 0, 0, 0}, {0, -1, 0, 0}, {0, 7, 0, 0}, {0, 0, -1, 0},
            {0, 0, 201, 0}, {0, 0, 0, -1}, {0, 0, 0, 101}};
        for (int[] c : wrong) {
            Check.due("no odds", x.odds(c[0], c[1], c[2], c[3]), -1);
        }
        Check.due("bounds", x.odds(0, 6, 200, 100), 0);
        Check.due("bounds", x.odds(0, 6, 0, 100), 1000000000);
    }

    /** Behind the fourth month hundredths are no longer whole: each part is cut by itself. */
    private static void oddsCutPartByPart() {
        BuriedGoods x = Check.field("tp0v99", "y:0");
        long all = 0;
        long none = 1000000000;
        for (int i = 0; i < 6; i++) {
            none -= none * 33 / 100;
        }
        Check.due("six months, none", x.odds(0, 6, 99, 33), none);
        for (int bits = 0; bits < 64; bits++) {
            long parts = 1000000000;
            for (int i = 0; i < 6; i++) {
                long mole = parts * 33 / 100;
                parts = (bits >> i & 1) == 1 ? mole : parts - mole;
            }
            all += Integer.bitCount(bits) <= 2 ? parts : 0;
        }
        Check.due("six months, two at most", x.odds(0, 6, 24, 33), all);
    }

    private static void shares() {
        BuriedGoods x = Check.field("tp0v10;tv20;tp1v3", "y:0-9");
        Check.due("lying or not", x.shares(0, 100), 30);
        Check.due("lying or not", x.shares(1, 100), 60);
        Check.due("cut", x.shares(2, 100), 9);
        Check.due("none of it", x.shares(2, 10), 0);
        Check.due("c 0", x.shares(0, 0), 0);
        Check.due("c 999", x.shares(1, 999), 605);
        int[][] wrong = {{3, 1}, {-1, 1}, {8, 1}, {0, -1}, {0, 1000}};
        for (int[] c : wrong) {
            Check.due("no shares", x.shares(c[0], c[1]), -1);
        }
        BuriedGoods y = Check.field("tp0v1;tp1v1", "y:0-9");
        y.months(1);
        Check.due("all 0", y.shares(0, 999), 0);
    }

    private static void most() {
        BuriedGoods x = Check.field("sw3h3y6k9; rd2;rd7;rd7; tp4v30m2; tp7v8m6; tv30m9; tp1v29m1; tm5v6; tp8v1m9");
        int[] due = {0, 2, 1, 1, 63, 43, 38, 0, 5, 104, 39, 3};
        for (int what = 0; what < due.length; what++) {
            Check.due("most(" + what + ")", x.most(what), due[what]);
        }
        x.lose(0);
        x.lose(5);
        Check.due("without a stake", x.most(7), 33);
        x.sell(2);
        Check.due("dearest", x.most(0), 0);
        Check.due("oldest", x.most(1), 5);
        Check.due("things", x.most(4), 59);
        Check.due("lawful", x.most(10), 39);
        Check.due("no such what", x.most(12), -1);
        Check.due("no such what", x.most(-1), -1);
        x.takes(1);
        Check.due("beside", x.most(11), 1);
        Check.due("free", x.most(8), 6);
        Check.due("lawful", x.most(10), 47);
        for (int i = 0; i < 19; i++) {
            x.give(50);
        }
        x.give(10);
        Check.due("lawful, 999 at most", x.most(10), 999);
        BuriedGoods ends = Check.field("sw2h2;tp1;tp2");
        Check.due("the end of a row and the next row's begin are not beside", ends.most(11), 0);
        BuriedGoods even = Check.field("sw1h3;tp2v5m2;tp0v5m2;rd4;rd4");
        Check.due("the lowest dearest", even.most(0), 0);
        Check.due("the lowest oldest", even.most(1), 0);
        Check.due("the lowest richest", even.most(2), 0);
        Check.due("the lowest dampest", even.most(3), 0);
        BuriedGoods square = Check.field("sw2h2;tp0;tp1;tp2;tp3");
        Check.due("four pairs", square.most(11), 4);
    }

    private static void mostOfNothing() {
        BuriedGoods x = Check.field("rd1;rd2;rd3");
        int[] due = {-1, -1, 0, 2, 0, 0, 0, 0, 12, 0, 30, 0};
        for (int what = 0; what < due.length; what++) {
            Check.due("most(" + what + ") of nothing", x.most(what), due[what]);
        }
        BuriedGoods y = Check.field("tp0v1", "y:0-9");
        y.months(1);
        Check.due("dearest of no worth", y.most(0), 0);
    }

    private static void count() {
        BuriedGoods x = Check.field("sy1;tm1;tp0;t", "y:1");
        x.sell(0);
        x.buy(1, 1);
        x.buy(1, 1);
        x.months(3);
        x.seen(0, 0, 1, 1, true);
        x.moles(8);
        Check.feed(x, "abc");
        int[] due = {3, 4, 1, 3, 0, 3, 8, 1, 3, 6};
        for (int what = 0; what < due.length; what++) {
            Check.due("count(" + what + ")", x.count(what), due[what]);
        }
        Check.due("count(10)", x.count(10), HIDDEN);
        Check.due("count(-1)", x.count(-1), HIDDEN);
    }
}
