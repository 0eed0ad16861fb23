/** Promises 6 to 11: rule, damp, thing, lies, law, moles. */
public final class TellTest {
    public static void main(String[] args) {
        defaults();
        told();
        rowsInTheirOrder();
        refusedWithoutField();
        laws();
        moles();
        Check.finish("TellTest");
    }

    private static void defaults() {
        BuriedGoods x = Check.field("t");
        int[] rules = {4, 3, 12, 2, 30};
        for (int what = 0; what < 5; what++) {
            Check.due("rule(" + what + ")", x.rule(what), rules[what]);
        }
        for (int row = 0; row < 3; row++) {
            Check.due("damp(" + row + ")", x.damp(row), 3);
        }
        Check.due("no fourth row", x.damp(3), -1);
        int[] thing = {10, 0, -1, 0, 0};
        for (int what = 0; what < 5; what++) {
            Check.due("thing(0, " + what + ")", Check.thing(x, 0, what), thing[what]);
        }
        Check.due("no second thing", Check.thing(x, 1, 0), Check.THROWN);
    }

    private static void told() {
        BuriedGoods x = Check.field("tv99s5p23m99;s w6h4y24f9k99;t p0 v1;tm7");
        int[] rules = {6, 4, 24, 9, 99};
        for (int what = 0; what < 5; what++) {
            Check.due("rule(" + what + ")", x.rule(what), rules[what]);
        }
        int[][] things = {{99, 5, 23, 99, 1}, {1, 0, 0, 0, 1}, {10, 0, -1, 7, 0}};
        for (int at = 0; at < 3; at++) {
            for (int what = 0; what < 5; what++) {
                Check.due("thing(" + at + ", " + what + ")", Check.thing(x, at, what), things[at][what]);
            }
        }
        int[][] wrong = {{0, -1}, {0, 5}, {-1, 0}, {3, 0}, {8, 0}, {Integer.MIN_VALUE, 0}, {0, Integer.MAX_VALUE}};
        for (int[] row : wrong) {
            Check.due("thing(" + row[0] + ", " + row[1] + ")", Check.thing(x, row[0], row[1]), Check.THROWN);
        }
        Check.due("lies(23)", x.lies(23), 0);
        Check.due("lies(0)", x.lies(0), 1);
        Check.due("lies(1)", x.lies(1), -1);
        Check.due("lies(24)", x.lies(24), -1);
        Check.due("lies(-1)", x.lies(-1), -1);
        Check.due("rule(5)", x.rule(5), -1);
        Check.due("rule(-1)", x.rule(-1), -1);
        x.lose(0);
        Check.due("its stake is lost", Check.thing(x, 0, 4), 0);
        x.takes(1);
        Check.due("taken up, without a stake", Check.thing(x, 1, 4), 0);
        Check.due("lies nowhere", Check.thing(x, 1, 2), -1);
        x.give(9);
        Check.due("coins as now", x.rule(4), 108);
    }

    private static void rowsInTheirOrder() {
        BuriedGoods x = Check.field("rd0;t;r;sh4;rd9");
        int[] damps = {0, 3, 9, 3, -1};
        for (int row = 0; row < 5; row++) {
            Check.due("damp(" + row + ")", x.damp(row), damps[row]);
        }
        Check.due("damp(-1)", x.damp(-1), -1);
    }

    private static void refusedWithoutField() {
        BuriedGoods x = new BuriedGoods();
        Check.due("rule", x.rule(0), -1);
        Check.due("damp", x.damp(0), -1);
        Check.due("lies", x.lies(0), -1);
        Check.due("thing", Check.thing(x, 0, 0), Check.THROWN);
    }

    private static void laws() {
        BuriedGoods x = new BuriedGoods();
        Check.due("none holds", x.law(-1), true);
        Check.due("no law yet", x.law(0), false);
        Check.law(x, "y:7");
        Check.law(x, "y:0-3");
        Check.due("law(2)", x.law(2), false);
        Check.due("law(-2)", x.law(-2), false);
        Check.due("law(1)", x.law(1), true);
        Check.due("law(1) again", x.law(1), true);
        Check.due("a wrong one", x.law(9), false);
        Check.due("it still holds", x.count(4), 1);
        Check.feed(x, "tp0v20");
        x.text(0);
        Check.due("by the second", x.grown(0, 2), 14);
        x.law(0);
        Check.due("by the first", x.grown(0, 2), 34);
        x.law(-1);
        Check.due("by none", x.grown(0, 2), 24);
        Check.due("none holds", x.count(4), -1);
    }

    private static void moles() {
        BuriedGoods x = new BuriedGoods();
        Check.due("it is so", x.moles(3), false);
        Check.due("below", x.moles(-1), false);
        Check.due("above", x.moles(10), false);
        Check.due("still", x.count(6), 3);
        Check.due("none", x.moles(0), true);
        Check.due("nine", x.moles(9), true);
        Check.due("nine again", x.moles(9), false);
        Check.due("nine", x.count(6), 9);
    }
}
