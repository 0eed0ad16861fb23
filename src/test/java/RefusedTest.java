/**
 * Every call that the document lets be refused, in each state that it names: what it answers, which STATUS it counts
 * (of several the first), and that nothing else has changed, told by the side of an object that was not asked for it.
 */
public final class RefusedTest {
    private static final int MIN = Integer.MIN_VALUE;
    private static final int MAX = Integer.MAX_VALUE;
    private static final int NONE = -1;
    private static final int HIDDEN = -1000000;
    private static final int NO_STATUS = -1;
    private static final int[] NO_PLACE = {MIN, HIDDEN, -2, -1, 8, 9, MAX};

    interface Made {
        BuriedGoods now();
    }

    interface Call {
        long on(BuriedGoods x);
    }

    public static void main(String[] args) {
        tape();
        texts();
        told();
        withoutField();
        months();
        lay();
        takesAndLose();
        sell();
        buy();
        search();
        give();
        yearsUndoBackLog();
        whatWillBe();
        howDamp();
        games();
        oddsSharesMost();
        statusAndCount();
        Check.finish("RefusedTest");
    }

    private static void refused(String what, Made made, Call call, long answer, int status) {
        BuriedGoods x = made.now();
        BuriedGoods twin = made.now();
        Check.due(what, call.on(x), answer);
        for (int i = 0; i < 5; i++) {
            Check.due(what + ": status(" + i + ")", x.status(i), twin.status(i) + (i == status ? 1 : 0));
        }
        Check.same(what + ": changes nothing that is seen", Check.seen(x), Check.seen(twin));
        Check.same(what + ": changes nothing that comes of it", Check.onward(x), Check.onward(twin));
    }

    // ---- The states

    private static BuriedGoods blank() {
        return new BuriedGoods();
    }

    /** Places 0 (raw), 1 (ripe) and 4 (without a stake) lie, 2 is ripe and 3 raw and lie nowhere; 5 to 7 have none. */
    private static BuriedGoods field() {
        BuriedGoods x = Check.field("s w3h2y4f1k6;r d5;r d0;t p0v20s1;t p4v30m9;t v7m4;t v8;t p5m1", "y:n+1");
        Check.law(x, "y:d-s");
        x.moles(9);
        x.lose(4);
        x.months(1);
        x.give(3);
        x.seen(0, 0, 2, 22, true);
        x.image();
        x.months(1);
        x.give(1);
        Check.feed(x, "t v5;r");
        return x;
    }

    private static BuriedGoods poor() {
        return Check.field("s w2h1y3k0;t p0;t m3;t");
    }

    private static BuriedGoods rich() {
        BuriedGoods x = Check.field("s k99;t p0");
        for (int i = 0; i < 17; i++) {
            x.give(50);
        }
        x.give(1);
        return x;
    }

    private static BuriedGoods crowd() {
        return Check.field("s k99;t p0;t;t;t;t;t;t p8;t m30");
    }

    private static BuriedGoods late(int month) {
        BuriedGoods x = Check.field("s k5;t p0v99", "y:1");
        for (int i = 0; i < month / 60; i++) {
            x.months(60);
        }
        x.months(month % 60);
        return x;
    }

    private static BuriedGoods taped(String text) {
        BuriedGoods x = field();
        x.end(0);
        Check.feed(x, text);
        return x;
    }

    private static BuriedGoods fourLaws() {
        BuriedGoods x = field();
        Check.law(x, "y:3");
        Check.law(x, "y:4");
        Check.feed(x, "y:5");
        return x;
    }

    private static BuriedGoods tenSeen() {
        BuriedGoods x = field();
        for (int i = 0; i < 9; i++) {
            x.seen(1, 1, i + 1, 9, i % 2 == 0);
        }
        return x;
    }

    // ---- Promises 2 to 5

    private static void tape() {
        String full = "s".repeat(240);
        Made whole = () -> taped(full);
        Made short1 = () -> taped(full.substring(1));
        Made short19 = () -> taped(full.substring(19));
        refused("feed onto 240", whole, x -> x.feed(0, 0, 0, 0, 1), NONE, NO_STATUS);
        refused("feed onto 240", whole, x -> x.feed(MIN, 0, 0, 0, 0), NONE, NO_STATUS);
        refused("feed onto 240", whole, x -> x.feed(MAX, MAX, MAX, MAX, MAX), NONE, NO_STATUS);
        refused("feed of two onto 239", short1, x -> x.feed(0, 0x74000000, 0, 0, 0x74), NONE, NO_STATUS);
        refused("feed of twenty onto 221", short19, x -> x.feed(-1, -1, -1, -1, -1), NONE, NO_STATUS);
        for (int n : new int[] {MIN, -2, -1, 240, 241, MAX}) {
            refused("end(" + n + ") of 239", short1, x -> x.end(n) ? 1 : 0, 0, NO_STATUS);
        }
        for (int n : new int[] {MIN, -1, 1, MAX}) {
            refused("end(" + n + ") of none", () -> taped(""), x -> x.end(n) ? 1 : 0, 0, NO_STATUS);
        }
    }

    private static void texts() {
        for (int sort : new int[] {MIN, -2, -1, 2, 3, MAX}) {
            refused("fault(" + sort + ")", RefusedTest::field, x -> x.fault(sort), -2, NO_STATUS);
            refused("text(" + sort + ")", RefusedTest::field, x -> x.text(sort), NONE, NO_STATUS);
            refused("text(" + sort + ")", () -> taped("y:1"), x -> x.text(sort), NONE, NO_STATUS);
        }
        String[] noFields = {"", " ", "s;", "t;t w", "t;t w4", "t v1v2", "t p1;t p1", "t p12", "r;r;r;r", "y:1", "t v0", "t;;"};
        for (String text : noFields) {
            refused("a field of '" + text + "'", () -> taped(text), x -> x.text(0), NONE, NO_STATUS);
            refused("a first field of '" + text + "'", () -> fedOnly(text), x -> x.text(0), NONE, NO_STATUS);
        }
        String[] noLaws = {"", " ", "y", "y:", "y:1;", "y:1=2", "y:12345", "t", "y:1)", "y:[[[[[[[1]]]]]]]"};
        for (String text : noLaws) {
            refused("a law of '" + text + "'", () -> taped(text), x -> x.text(1), NONE, NO_STATUS);
            refused("a first law of '" + text + "'", () -> fedOnly(text), x -> x.text(1), NONE, NO_STATUS);
        }
        refused("a fifth law", RefusedTest::fourLaws, x -> x.text(1), NONE, NO_STATUS);
    }

    private static BuriedGoods fedOnly(String text) {
        BuriedGoods x = blank();
        Check.feed(x, text);
        return x;
    }

    // ---- Promises 6 to 11

    private static void told() {
        for (int what : new int[] {MIN, -2, -1, 5, 6, MAX}) {
            refused("rule(" + what + ")", RefusedTest::field, x -> x.rule(what), NONE, NO_STATUS);
            for (int at : new int[] {0, 2, 4}) {
                refused("thing(" + at + ", " + what + ")", RefusedTest::field, x -> Check.thing(x, at, what), Check.THROWN, NO_STATUS);
            }
        }
        for (int row : new int[] {MIN, -1, 2, 3, 4, MAX}) {
            refused("damp(" + row + ")", RefusedTest::field, x -> x.damp(row), NONE, NO_STATUS);
        }
        for (int at : new int[] {MIN, -1, 5, 7, 8, MAX}) {
            refused("thing(" + at + ", 0)", RefusedTest::field, x -> Check.thing(x, at, 0), Check.THROWN, NO_STATUS);
            refused("thing(" + at + ", 4)", RefusedTest::field, x -> Check.thing(x, at, 4), Check.THROWN, NO_STATUS);
        }
        for (int plot : new int[] {MIN, -2, -1, 1, 2, 3, 6, 24, MAX}) {
            refused("lies(" + plot + ")", RefusedTest::field, x -> x.lies(plot), NONE, NO_STATUS);
        }
        for (int law : new int[] {MIN, -2, 2, 3, 4, MAX}) {
            refused("law(" + law + ")", RefusedTest::field, x -> x.law(law) ? 1 : 0, 0, NO_STATUS);
        }
        for (int law : new int[] {MIN, -2, 4, 5, MAX}) {
            refused("law(" + law + ") of four", RefusedTest::fourLaws, x -> x.law(law) ? 1 : 0, 0, NO_STATUS);
        }
        for (int v : new int[] {MIN, -1, 9, 10, MAX}) {
            refused("moles(" + v + ") while 9", RefusedTest::field, x -> x.moles(v) ? 1 : 0, 0, NO_STATUS);
        }
        for (int v : new int[] {MIN, -1, 3, 10, MAX}) {
            refused("moles(" + v + ") of a new one", RefusedTest::blank, x -> x.moles(v) ? 1 : 0, 0, NO_STATUS);
        }
    }

    private static void withoutField() {
        Made no = () -> {
            BuriedGoods x = blank();
            Check.law(x, "y:1");
            x.law(0);
            x.moles(1);
            Check.feed(x, "t;t");
            return x;
        };
        int[] any = {MIN, -1, 0, 1, 60, MAX};
        for (int n : any) {
            refused("months(" + n + ") without a field", no, x -> x.months(n), NONE, 0);
            refused("give(" + n + ") without a field", no, x -> x.give(n), NONE, 0);
            refused("buy(" + n + ", 0) without a field", no, x -> x.buy(n, 0), NONE, 0);
            refused("search(" + n + ") without a field", no, x -> x.search(n), HIDDEN, 0);
            refused("lay(" + n + ", 0) without a field", no, x -> x.lay(n, 0), NONE, 0);
            refused("takes(" + n + ") without a field", no, x -> x.takes(n), NONE, 0);
            refused("sell(" + n + ") without a field", no, x -> x.sell(n), NONE, 0);
            refused("lose(" + n + ") without a field", no, x -> x.lose(n), NONE, 0);
            refused("years(" + n + ") without a field", no, x -> x.years(n, n), NONE, NO_STATUS);
            refused("rule(" + n + ") without a field", no, x -> x.rule(n), NONE, NO_STATUS);
            refused("damp(" + n + ") without a field", no, x -> x.damp(n), NONE, NO_STATUS);
            refused("thing(" + n + ") without a field", no, x -> Check.thing(x, n, 0), Check.THROWN, NO_STATUS);
            refused("lies(" + n + ") without a field", no, x -> x.lies(n), NONE, NO_STATUS);
            refused("grown(" + n + ") without a field", no, x -> x.grown(n, 0), NONE, NO_STATUS);
            refused("ripeIn(" + n + ") without a field", no, x -> x.ripeIn(n), NONE, NO_STATUS);
            refused("best(" + n + ") without a field", no, x -> x.best(n, 0), NONE, NO_STATUS);
            refused("laying(" + n + ") without a field", no, x -> x.laying(n, 0), NONE, NO_STATUS);
            refused("damps(0, " + n + ") without a field", no, x -> x.damps(0, n), NONE, NO_STATUS);
            refused("ask(0, " + n + ") without a field", no, x -> x.ask(0, n), NONE, NO_STATUS);
            refused("seen(0, 0, " + n + ") without a field", no, x -> x.seen(0, 0, n, 0, true), NONE, NO_STATUS);
            refused("odds(" + n + ") without a field", no, x -> x.odds(n, 0, 0, 0), NONE, NO_STATUS);
            refused("shares(" + n + ") without a field", no, x -> x.shares(n, 0), NONE, NO_STATUS);
            refused("game(0, " + n + ") without a field", no, x -> x.game(0, n, 0, 0, 0), HIDDEN, NO_STATUS);
            refused("rests(0, " + n + ") without a field", no, x -> x.rests(0, n, -1), NONE, NO_STATUS);
            refused("safe(0, " + n + ") without a field", no, x -> x.safe(0, n, 0), HIDDEN, NO_STATUS);
            refused("log(" + n + ", 0) without a field", no, x -> x.log(n, 0), NONE, NO_STATUS);
        }
        for (int what = 0; what < 12; what++) {
            int which = what;
            refused("most(" + what + ") without a field", no, x -> x.most(which), NONE, NO_STATUS);
        }
        refused("way() without a field", no, x -> x.way(), NONE, NO_STATUS);
        refused("full() without a field", no, x -> x.full(), NONE, NO_STATUS);
        refused("image() without a field", no, x -> x.image(), NONE, NO_STATUS);
        refused("back() without a field", no, x -> x.back(), NONE, NO_STATUS);
        refused("undo() without a field", no, x -> x.undo(), NONE, NO_STATUS);
    }

    // ---- Promises 12 to 19

    private static void months() {
        for (int n : new int[] {MIN, -1, 0, 61, 999, 1000, MAX}) {
            refused("months(" + n + ")", RefusedTest::field, x -> x.months(n), NONE, 1);
            refused("months(" + n + ") in the month 999", () -> late(999), x -> x.months(n), NONE, 1);
        }
        for (int n : new int[] {1, 2, 60}) {
            refused("months(" + n + ") in the month 999", () -> late(999), x -> x.months(n), NONE, 4);
        }
        refused("months(60) in the month 940", () -> late(940), x -> x.months(60), NONE, 4);
        refused("months(2) in the month 998", () -> late(998), x -> x.months(2), NONE, 4);
        Check.due("months(60) in the month 939", late(939).months(60), 999);
        Check.due("months(1) in the month 998", late(998).months(1), 999);
    }

    private static void lay() {
        int[] noPlot = {MIN, HIDDEN, -2, -1, 6, 24, MAX};
        for (int at : new int[] {MIN, -1, 5, 7, 8, MAX}) {
            for (int plot : new int[] {0, 1, 6, -1}) {
                refused("lay(" + at + ", " + plot + ")", RefusedTest::field, x -> x.lay(at, plot), NONE, 0);
            }
        }
        for (int plot : noPlot) {
            refused("lay(2, " + plot + ")", RefusedTest::field, x -> x.lay(2, plot), NONE, 1);
            refused("lay(0, " + plot + "), which lies", RefusedTest::field, x -> x.lay(0, plot), NONE, 1);
            refused("lay(1, " + plot + ") without a coin", RefusedTest::poor, x -> x.lay(1, plot), NONE, 1);
        }
        for (int plot : new int[] {0, 1, 4, 5}) {
            refused("lay(0, " + plot + "), which lies", RefusedTest::field, x -> x.lay(0, plot), NONE, 2);
        }
        for (int plot : new int[] {0, 4, 5}) {
            refused("lay(3, " + plot + "), which is taken", RefusedTest::field, x -> x.lay(3, plot), NONE, 2);
        }
        refused("lay(3, 0) of no such thing, without a coin", RefusedTest::poor, x -> x.lay(3, 0), NONE, 0);
        refused("lay(0, 1), which lies, without a coin", RefusedTest::poor, x -> x.lay(0, 1), NONE, 2);
        refused("lay(1, 0), which is taken, without a coin", RefusedTest::poor, x -> x.lay(1, 0), NONE, 2);
        refused("lay(1, 1) without a coin", RefusedTest::poor, x -> x.lay(1, 1), NONE, 3);
    }

    private static void takesAndLose() {
        for (int at : new int[] {MIN, -1, 5, 7, 8, MAX}) {
            refused("takes(" + at + ")", RefusedTest::field, x -> x.takes(at), NONE, 0);
            refused("lose(" + at + ")", RefusedTest::field, x -> x.lose(at), NONE, 0);
        }
        for (int at = 2; at <= 3; at++) {
            int which = at;
            refused("takes(" + at + "), which lies nowhere", RefusedTest::field, x -> x.takes(which), NONE, 2);
            refused("lose(" + at + "), which lies nowhere", RefusedTest::field, x -> x.lose(which), NONE, 2);
        }
        refused("takes(4) without a stake", RefusedTest::field, x -> x.takes(4), NONE, 3);
        refused("lose(4) without a stake", RefusedTest::field, x -> x.lose(4), NONE, 3);
    }

    private static void sell() {
        for (int at : new int[] {MIN, -1, 5, 7, 8, MAX}) {
            refused("sell(" + at + ")", RefusedTest::field, x -> x.sell(at), NONE, 0);
        }
        refused("sell(1), which lies, ripe", RefusedTest::field, x -> x.sell(1), NONE, 2);
        refused("sell(0), which lies, raw", RefusedTest::field, x -> x.sell(0), NONE, 2);
        refused("sell(4), which lies without a stake", RefusedTest::field, x -> x.sell(4), NONE, 2);
        refused("sell(3), which is raw", RefusedTest::field, x -> x.sell(3), NONE, 3);
        for (int year = 1; year <= 24; year++) {
            String land = "s y" + year + ";t m" + (year - 1) + ";t m" + year;
            refused("sell in " + land, () -> Check.field(land), x -> x.sell(0), NONE, 3);
            Check.due("sell in " + land, Check.field(land).sell(1), 10);
        }
    }

    private static void buy() {
        int[][] outside = {{0, 0}, {-1, 0}, {31, 0}, {MIN, 0}, {MAX, 0}, {1, -1}, {1, 6}, {30, MIN}, {30, MAX}, {0, 6}, {31, -1}};
        for (int[] c : outside) {
            String what = "buy(" + c[0] + ", " + c[1] + ")";
            refused(what, RefusedTest::field, x -> x.buy(c[0], c[1]), NONE, 1);
            refused(what + " without coins", RefusedTest::poor, x -> x.buy(c[0], c[1]), NONE, 1);
            refused(what + " without a place", RefusedTest::crowd, x -> x.buy(c[0], c[1]), NONE, 1);
        }
        for (int value = 1; value <= 30; value++) {
            int v = value;
            int price = value / 2 + value % 2;
            refused("buy(" + v + ") a coin short", () -> Check.field("sk" + (price - 1)), x -> x.buy(v, 0), NONE, 3);
            BuriedGoods just = Check.field("sk" + price);
            Check.due("buy(" + v + ") with just the coins", just.buy(v, 5), 0);
            Check.due("buy(" + v + "): all is paid", just.rule(4), 0);
        }
        refused("buy without a place", RefusedTest::crowd, x -> x.buy(1, 0), NONE, 3);
        refused("buy without coins", RefusedTest::poor, x -> x.buy(1, 0), NONE, 3);
    }

    private static void search() {
        for (int plot : new int[] {MIN, HIDDEN, -2, -1, 6, 24, MAX}) {
            refused("search(" + plot + ")", RefusedTest::field, x -> x.search(plot), HIDDEN, 1);
            refused("search(" + plot + ") without a coin", RefusedTest::poor, x -> x.search(plot), HIDDEN, 1);
        }
        refused("search(2) of two plots, without a coin", RefusedTest::poor, x -> x.search(2), HIDDEN, 1);
        refused("search(1) without a coin", RefusedTest::poor, x -> x.search(1), HIDDEN, 3);
        refused("search(0) without a coin", RefusedTest::poor, x -> x.search(0), HIDDEN, 3);
    }

    private static void give() {
        for (int n : new int[] {MIN, -1, 0, 51, 999, MAX}) {
            refused("give(" + n + ")", RefusedTest::field, x -> x.give(n), NONE, 1);
            refused("give(" + n + ") of 950", RefusedTest::rich, x -> x.give(n), NONE, 1);
        }
        refused("give(50) of 950", RefusedTest::rich, x -> x.give(50), NONE, 3);
        Check.due("give(49) of 950", rich().give(49), 999);
        Made full = () -> {
            BuriedGoods x = rich();
            x.give(49);
            return x;
        };
        refused("give(1) of 999", full, x -> x.give(1), NONE, 3);
        refused("give(50) of 999", full, x -> x.give(50), NONE, 3);
    }

    // ---- Promises 20 to 23, 39, 40

    private static void yearsUndoBackLog() {
        for (int n : new int[] {MIN, -1, 0, 61, 999, 1000, MAX}) {
            refused("years(" + n + ")", RefusedTest::field, x -> x.years(n, 1L), NONE, NO_STATUS);
            refused("years(" + n + ") in the month 999", () -> late(999), x -> x.years(n, 1L), NONE, NO_STATUS);
        }
        refused("years(1) in the month 999", () -> late(999), x -> x.years(1, 1L), NONE, NO_STATUS);
        refused("years(60) in the month 940", () -> late(940), x -> x.years(60, Long.MIN_VALUE), NONE, NO_STATUS);
        Check.due("years(60) in the month 939", late(939).years(60, Long.MAX_VALUE), 999);
        Check.due("years(1) in the month 998", late(998).years(1, Long.MIN_VALUE), 999);
        refused("undo() of nothing", RefusedTest::poor, x -> x.undo(), NONE, NO_STATUS);
        refused("back() without an image", RefusedTest::rich, x -> x.back(), NONE, NO_STATUS);
        for (int what : new int[] {MIN, -1, 3, 4, MAX}) {
            refused("log(0, " + what + ")", RefusedTest::field, x -> x.log(0, what), NONE, NO_STATUS);
        }
        for (int i : new int[] {MIN, -1, 2, 60, MAX}) {
            refused("log(" + i + ", 0) of two", RefusedTest::field, x -> x.log(i, 0), NONE, NO_STATUS);
        }
        for (int i : new int[] {MIN, -1, 60, 61, MAX}) {
            refused("log(" + i + ", 0) of sixty", () -> late(70), x -> x.log(i, 0), NONE, NO_STATUS);
        }
    }

    // ---- Promises 24 to 32

    private static void whatWillBe() {
        for (int at : new int[] {MIN, -1, 5, 7, 8, MAX}) {
            refused("grown(" + at + ", 0)", RefusedTest::field, x -> x.grown(at, 0), NONE, NO_STATUS);
            refused("ripeIn(" + at + ")", RefusedTest::field, x -> x.ripeIn(at), NONE, NO_STATUS);
            refused("best(" + at + ", 0)", RefusedTest::field, x -> x.best(at, 0), NONE, NO_STATUS);
            refused("best(" + at + ", 1)", RefusedTest::field, x -> x.best(at, 1), NONE, NO_STATUS);
        }
        for (int n : new int[] {MIN, -1, 100, 101, MAX}) {
            refused("grown(0, " + n + ")", RefusedTest::field, x -> x.grown(0, n), NONE, NO_STATUS);
            refused("grown(2, " + n + "), which lies nowhere", RefusedTest::field, x -> x.grown(2, n), NONE, NO_STATUS);
        }
        for (int at = 2; at <= 3; at++) {
            int which = at;
            refused("ripeIn(" + at + "), which lies nowhere", RefusedTest::field, x -> x.ripeIn(which), NONE, NO_STATUS);
            refused("best(" + at + ", 0), which lies nowhere", RefusedTest::field, x -> x.best(which, 0), NONE, NO_STATUS);
            refused("best(" + at + ", 1), which lies nowhere", RefusedTest::field, x -> x.best(which, 1), NONE, NO_STATUS);
        }
        for (int what : new int[] {MIN, -1, 2, MAX}) {
            refused("best(1, " + what + ")", RefusedTest::field, x -> x.best(1, what), NONE, NO_STATUS);
            refused("laying(1, " + what + ")", RefusedTest::field, x -> x.laying(1, what), NONE, NO_STATUS);
        }
        for (int n : new int[] {MIN, -1, 0, 25, 26, MAX}) {
            refused("laying(" + n + ", 0)", RefusedTest::field, x -> x.laying(n, 0), NONE, NO_STATUS);
            refused("laying(" + n + ", 1)", RefusedTest::field, x -> x.laying(n, 1), NONE, NO_STATUS);
        }
        refused("full() while none lies", () -> Check.field("t;t m99"), x -> x.full(), NONE, NO_STATUS);
        refused("full() without things", () -> Check.field("r"), x -> x.full(), NONE, NO_STATUS);
    }

    private static void howDamp() {
        int[][] wrong = {{-1, 0, 1, 0}, {5, 0, 1, 0}, {8, 0, 1, 0}, {MIN, 0, 1, 0}, {MAX, 0, 1, 0}, {0, -1, 1, 0}, {0, 2, 1, 0},
            {0, MIN, 1, 0}, {0, MAX, 1, 0}, {0, 0, 0, 0}, {0, 0, -1, 0}, {0, 0, 25, 0}, {0, 0, MIN, 0}, {0, 0, MAX, 0},
            {0, 0, 1, -1}, {0, 0, 1, 201}, {0, 0, 1, MIN}, {0, 0, 1, MAX}};
        for (int[] c : wrong) {
            for (boolean more : new boolean[] {false, true}) {
                String what = "seen(" + c[0] + ", " + c[1] + ", " + c[2] + ", " + c[3] + ", " + more + ")";
                refused(what, RefusedTest::field, x -> x.seen(c[0], c[1], c[2], c[3], more), NONE, NO_STATUS);
            }
        }
        refused("seen, the eleventh", RefusedTest::tenSeen, x -> x.seen(0, 0, 1, 0, true), NONE, NO_STATUS);
        refused("seen, the eleventh", RefusedTest::tenSeen, x -> x.seen(0, 0, 1, 200, false), NONE, NO_STATUS);
        for (int row : new int[] {MIN, -1, 2, 4, MAX}) {
            refused("damps(" + row + ", -1)", RefusedTest::field, x -> x.damps(row, -1), NONE, NO_STATUS);
            refused("damps(" + row + ", 0)", RefusedTest::field, x -> x.damps(row, 0), NONE, NO_STATUS);
            refused("ask(" + row + ", 0)", RefusedTest::field, x -> x.ask(row, 0), NONE, NO_STATUS);
        }
        for (int i : new int[] {MIN, HIDDEN, -2, 10, 11, MAX}) {
            refused("damps(1, " + i + ") of ten", RefusedTest::field, x -> x.damps(1, i), NONE, NO_STATUS);
        }
        for (int told : new int[] {MIN, -1, 5, 8, MAX}) {
            refused("ask(0, " + told + ")", RefusedTest::field, x -> x.ask(0, told), NONE, NO_STATUS);
        }
        Made none = () -> {
            BuriedGoods x = field();
            x.seen(0, 1, 1, 0, false);
            return x;
        };
        refused("ask(1, 0) while nothing fits", none, x -> x.ask(1, 0), NONE, NO_STATUS);
        refused("damps(1, 0) while nothing fits", none, x -> x.damps(1, 0), NONE, NO_STATUS);
    }

    // ---- Promises 33 to 38

    private static void games() {
        for (int at : NO_PLACE) {
            noGame(at, 0);
            noGame(0, at);
            noGame(at, at);
        }
        int[][] pairs = {{0, 0}, {1, 1}, {4, 4}, {2, 2}, {0, 2}, {2, 0}, {3, 1}, {2, 3}, {0, 5}, {5, 0}, {7, 1}, {5, 6}};
        for (int[] pair : pairs) {
            noGame(pair[0], pair[1]);
        }
        for (int n : new int[] {MIN, -1, 2, MAX}) {
            refused("game, x " + n, RefusedTest::field, x -> x.game(0, 1, n, 0, 0), HIDDEN, NO_STATUS);
            refused("game, y " + n, RefusedTest::field, x -> x.game(0, 1, 0, n, 0), HIDDEN, NO_STATUS);
            refused("game, what " + n, RefusedTest::field, x -> x.game(0, 1, 0, 0, n), HIDDEN, NO_STATUS);
            refused("safe, what " + n, RefusedTest::field, x -> x.safe(0, 1, n), HIDDEN, NO_STATUS);
        }
        for (int i : new int[] {MIN, HIDDEN, -2, 0, 1, 4, MAX}) {
            refused("rests, i " + i, RefusedTest::field, x -> x.rests(0, 1, i), NONE, NO_STATUS);
        }
    }

    private static void noGame(int one, int other) {
        String pair = "(" + one + ", " + other + ")";
        refused("game" + pair, RefusedTest::field, x -> x.game(one, other, 0, 1, 1), HIDDEN, NO_STATUS);
        refused("safe" + pair, RefusedTest::field, x -> x.safe(one, other, 0), HIDDEN, NO_STATUS);
        refused("safe" + pair, RefusedTest::field, x -> x.safe(one, other, 1), HIDDEN, NO_STATUS);
        refused("rests" + pair, RefusedTest::field, x -> x.rests(one, other, -1), NONE, NO_STATUS);
    }

    private static void oddsSharesMost() {
        for (int at : new int[] {MIN, -1, 2, 3, 5, 7, 8, MAX}) {
            refused("odds(" + at + ")", RefusedTest::field, x -> x.odds(at, 1, 1, 1), NONE, NO_STATUS);
        }
        for (int at : new int[] {MIN, -1, 5, 7, 8, MAX}) {
            refused("shares(" + at + ")", RefusedTest::field, x -> x.shares(at, 1), NONE, NO_STATUS);
        }
        int[][] wrong = {{-1, 0, 0}, {7, 0, 0}, {MIN, 0, 0}, {MAX, 0, 0}, {0, -1, 0}, {0, 201, 0}, {0, MIN, 0}, {0, MAX, 0},
            {0, 0, -1}, {0, 0, 101}, {0, 0, MIN}, {0, 0, MAX}};
        for (int[] c : wrong) {
            String what = "odds(0, " + c[0] + ", " + c[1] + ", " + c[2] + ")";
            refused(what, RefusedTest::field, x -> x.odds(0, c[0], c[1], c[2]), NONE, NO_STATUS);
        }
        for (int c : new int[] {MIN, -1, 1000, 1001, MAX}) {
            refused("shares(0, " + c + ")", RefusedTest::field, x -> x.shares(0, c), NONE, NO_STATUS);
            refused("shares(2, " + c + ")", RefusedTest::field, x -> x.shares(2, c), NONE, NO_STATUS);
        }
        for (int what : new int[] {MIN, -1, 12, 13, MAX}) {
            refused("most(" + what + ")", RefusedTest::field, x -> x.most(what), NONE, NO_STATUS);
        }
        refused("the dearest of none", () -> Check.field("r"), x -> x.most(0), NONE, NO_STATUS);
        refused("the oldest of none", () -> Check.field("r"), x -> x.most(1), NONE, NO_STATUS);
    }

    private static void statusAndCount() {
        for (int what : new int[] {MIN, HIDDEN, -2, -1, 5, 6, MAX}) {
            refused("status(" + what + ")", RefusedTest::field, x -> x.status(what), NONE, NO_STATUS);
        }
        for (int what : new int[] {MIN, HIDDEN, -2, -1, 10, 11, MAX}) {
            refused("count(" + what + ")", RefusedTest::field, x -> x.count(what), HIDDEN, NO_STATUS);
            refused("count(" + what + ") of a new one", RefusedTest::blank, x -> x.count(what), HIDDEN, NO_STATUS);
        }
    }
}
