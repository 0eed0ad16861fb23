/** Promises 1 to 5: a new object, the tape, the fault of fields and laws, and taking them over. */
public final class TextTest {
    public static void main(String[] args) {
        newObject();
        tape();
        fieldFaults();
        fieldsThatEndTooEarly();
        lawFaults();
        lawDepths();
        prefixesAgree();
        takingOver();
        Check.finish("TextTest");
    }

    private static void newObject() {
        BuriedGoods x = new BuriedGoods();
        int[] want = {0, 0, 0, 0, -1, 0, 3, 0, 0, 0, -1000000};
        for (int what = 0; what < want.length; what++) {
            Check.due("new count(" + what + ")", x.count(what), want[what]);
        }
        Check.due("new rule", x.rule(0), -1);
        Check.due("new thing", Check.thing(x, 0, 0), Check.THROWN);
    }

    private static void tape() {
        BuriedGoods x = new BuriedGoods();
        Check.due("feed of nothing", x.feed(0, 0, 0, 0, 0), 0);
        Check.due("feed leaves out zeros", x.feed(0x73007700, 0x35, 0, 0x3b000000, 0x72), 5);
        Check.due("highest first", x.fault(0), -1);
        Check.due("taken", x.text(0), 0);
        Check.due("taken w", x.rule(0), 5);
        Check.due("taken empties the tape", x.count(3), 0);
        for (int i = 1; i <= 12; i++) {
            Check.due("feed 20", x.feed(-1, -1, -1, -1, -1), 20 * i);
        }
        Check.due("nothing more goes on", x.feed(0, 0, 0, 0, 0), 240);
        Check.due("one too many", x.feed(0, 0, 0, 0, 1), -1);
        Check.due("one too many highest", x.feed(1 << 24, 0, 0, 0, 0), -1);
        Check.due("still 240", x.count(3), 240);
        Check.due("end below", x.end(-1), false);
        Check.due("end above", x.end(241), false);
        Check.due("end all", x.end(240), true);
        Check.due("end 239", x.end(239), true);
        Check.due("longer again", x.end(240), false);
        Check.due("two too many", x.feed(0, 0, 0, 0, 0x0101), -1);
        Check.due("one fits", x.feed(0, 0, 0, 0, 1), 240);
        Check.due("bytes are without sign", x.fault(0), 0);
        Check.due("end 0", x.end(0), true);
        Check.due("empty", x.count(3), 0);
        Check.due("end 0 again", x.end(0), true);
        Check.due("end 1 of none", x.end(1), false);
    }

    private static void fieldFaults() {
        String[] good = {"s", "r", "t", " s ", "t;r;s", "sw1h1y1f0k0", "sw6h4y24f9k99", "s k 99 f 9 y 24 h 4 w 6",
            "sw01h01y01f00k00", "rd0", "rd9", "rd09", "tv1s0p0m0", "tv99s5p11m99", "tm99p00s05v01",
            "s;r;r;r;t;t;t;t;t;t;t;t", "sh4;r;r;r;r", "r;r;r;r;sh4", "tp23;sw6h4", "tp1;tp2;tp0", "t s 5", "r ; t  "};
        for (String text : good) {
            Check.fault(text, 0, -1);
        }
        Object[][] bad = {{"", 0}, {"  ", 2}, {"x", 0}, {" x", 1}, {";", 0}, {"s;", 2}, {"s; ", 3}, {"s;;", 2},
            {"s;s", 2}, {"ss", 1}, {"s w", 3}, {"sw ", 3}, {"sw;", 2}, {"swh", 2}, {"sd", 1}, {"rw", 1}, {"td", 1},
            {"tw", 1}, {"rd1d2", 3}, {"sw1w", 3}, {"tv1 v", 4}, {"sw0", 2}, {"sw00", 3}, {"sw0h", 2}, {"sw7", 2},
            {"sw07", 3}, {"sw10", 3}, {"sw100", 4}, {"sw010", 4}, {"sh0", 2}, {"sh5", 2}, {"sy0", 2}, {"sy25", 3},
            {"sy250", 4}, {"sy9999", 4}, {"sf10", 3}, {"sk100", 4}, {"rd10", 3}, {"tv0", 2}, {"tv00", 3}, {"tv100", 4},
            {"ts6", 2}, {"tp24", 3}, {"tp99", 3}, {"tm100", 4}, {"sw1 0", 4}, {"sw1 h", 5}, {"r;r;r;r;r", 8},
            {"sh4;r;r;r;r;r", 12}, {"t;t;t;t;t;t;t;t;t", 16}, {"s,", 1}, {"s\u00e9", 1}, {"s\u0001", 1}, {"S", 0},
            {"sw1-", 3}, {"sw-1", 2}, {"s\t", 1}};
        for (Object[] row : bad) {
            Check.fault((String) row[0], 0, (Integer) row[1]);
        }
    }

    private static void fieldsThatEndTooEarly() {
        Object[][] bad = {{"r;r;r;r", 7}, {"sh1;r;r", 7}, {"r;r;sh1", 7}, {"r;r;sh1 ", 8}, {"tp12", 4}, {"tp12 ", 5},
            {"sw1h1;tp1", 9}, {"tp3;sw3h1", 9}, {"tp1;tp1", 7}, {"tp01;tp1;t", 10}, {"tp23;tp23;sw6h4", 15},
            {"tp12;tv0", 7}, {"r;r;r;r;sh3x", 11}};
        for (Object[] row : bad) {
            Check.fault((String) row[0], 0, (Integer) row[1]);
        }
        Check.due("fault -1", new BuriedGoods().fault(-1), -2);
        Check.due("fault 2", new BuriedGoods().fault(2), -2);
    }

    private static void lawFaults() {
        String[] good = {"y:1", "y:v", "y:s", "y:d", "y:m", "y:n", "y:t", "y:0000", "y:9999", " y : 1 + 2 ", "y:v>1?2",
            "y:v=1?2;y:3", "y:1;y:2;y:3", "y:v<1&s>2|d=3?m-n*t/2", "y:!v>1?2", "y:(v>1)?2", "y:(v>1|s=1)&d=1?2",
            "y:[1]", "y:[v+1]*[s-1]>[2]?[3]", "y:!!v=1?0", "y:!(v=1&!s=1)?0", "y:v=1&(s=1)?0", "y:v=1|!s=1?0",
            "y:1+1+1-1*1/1"};
        for (String text : good) {
            Check.fault(text, 1, -1);
        }
        Object[][] bad = {{"", 0}, {" ", 1}, {"y", 1}, {"y ", 2}, {"y:", 2}, {"v", 0}, {"yy", 1}, {"y;", 1}, {"y:;", 2},
            {"y:1;", 4}, {"y:1;;", 4}, {"y:1;v", 4}, {"y:x", 2}, {"y:y", 2}, {"y:-1", 2}, {"y:+", 2}, {"y:1+", 4},
            {"y:1+;", 4}, {"y:1++", 4}, {"y:1 2", 4}, {"y:12345", 6}, {"y:00000", 6}, {"y:1v", 3}, {"y:v1", 3},
            {"y:1?", 3}, {"y:1)", 3}, {"y:1]", 3}, {"y:1&", 3}, {"y:1|", 3}, {"y:1!", 3}, {"y:1(", 3}, {"y:1[", 3},
            {"y:1=", 4}, {"y:1==", 4}, {"y:1=2", 5}, {"y:1=2;", 5}, {"y:1=2=", 5}, {"y:1=2?", 6}, {"y:1=2?;", 6},
            {"y:1=2?3=", 7}, {"y:1=2?3?", 7}, {"y:1=2?!", 6}, {"y:1=2?(", 6}, {"y:1=2)", 5}, {"y:1=2]", 5},
            {"y:1=2&", 6}, {"y:1=2|", 6}, {"y:1=2|?1", 6}, {"y:1=2|&", 6}, {"y:1=?1", 4}, {"y:(1=)?1", 5}, {"y:!?1", 3},
            {"y:1*", 4}, {"y:1*;y:1", 4}, {"y:1*+1", 4}, {"y:1/;y:1", 4}, {"y:1-;y:1", 4}, {"y:[1*]", 5}, {"y:[1+]", 5},
             {"y:1=2&?", 6}, {"y:1=2&3?", 7}, {"y:1=2&3;", 7}, {"y:1=2&3)", 7}, {"y:(", 3}, {"y:()", 3},
            {"y:(1", 4}, {"y:(1)", 4}, {"y:(1]", 4}, {"y:(1;", 4}, {"y:(1=2", 6}, {"y:(1=2?", 6}, {"y:(1=2;", 6},
            {"y:(1=2)", 7}, {"y:(1=2);", 7}, {"y:(1=2)=", 7}, {"y:(1=2)+", 7}, {"y:!", 3}, {"y:!1", 4}, {"y:!1?", 4},
            {"y:!1;", 4}, {"y:!1=2", 6}, {"y:!1=2;", 6}, {"y:[", 3}, {"y:[1", 4}, {"y:[1=", 4}, {"y:[1)", 4}, {"y:[]", 3},
            {"y:[(", 3}, {"y:[!", 3}, {"y:[1]1", 5}, {"y:[1](", 5}, {"y:1\u00ff", 3}, {"y:1=(", 4}, {"y:1=!", 4}, {"Y:1", 0}};
        for (Object[] row : bad) {
            Check.fault((String) row[0], 1, (Integer) row[1]);
        }
    }

    private static void lawDepths() {
        Check.fault("y:[[[[[[1]]]]]]", 1, -1);
        Check.fault("y:[[[[[[[1", 1, 8);
        Check.fault("y:!!!!!!1=1?1", 1, -1);
        Check.fault("y:!!!!!!!", 1, 8);
        Check.fault("y:!!!!!![", 1, 8);
        Check.fault("y:!!!!!!(", 1, 8);
        Check.fault("y:((((((1=1))))))?1", 1, -1);
        Check.fault("y:(((((((", 1, 8);
        Check.fault("y:(!([![1]=1))?1", 1, 6);
        Check.fault("y:(!(!([1]=1)))?[[[[[[1]]]]]]", 1, -1);
        Check.fault("y:(!(!(!1=1)))?1", 1, -1);
        Check.fault("y:(!(!(![1]=1)))?1", 1, 8);
        Check.fault("y:[1]+[2]+[3]+[4]+[5]+[6]+[7]+[8]", 1, -1);
        Check.fault("y:!1=1&!1=1&!1=1&!1=1&!1=1&!1=1&!1=1?1", 1, -1);
        Check.fault("y:!!!1=1&[[[[[[1]]]]]]=1?1", 1, -1);
        Check.fault("y:!!!1=[[[1]]]&(((((([[", 1, 21);
        Check.fault("y:1;y:[[[[[[[", 1, 12);
    }

    /** What is fed behind a fault can't move it, and what stands ahead of it can still go on. */
    private static void prefixesAgree() {
        java.util.Random random = new java.util.Random(5);
        String[] signs = {" srt;wd1v2sp3m0", "y:;v!()[]?=<>+-*/1&| 23"};
        for (int i = 0; i < 20000; i++) {
            int sort = i % 2;
            StringBuilder text = new StringBuilder(sort == 1 ? "y:" : "");
            for (int k = random.nextInt(14); k >= 0; k--) {
                text.append(signs[sort].charAt(random.nextInt(signs[sort].length())));
            }
            int fault = Check.fault(text.toString(), sort);
            if (fault == -1 || fault == text.length()) {
                continue;
            }
            Check.fault(text.substring(0, fault + 1), sort, fault);
            Check.fault(text.substring(0, fault + 1) + "x", sort, fault);
            int before = Check.fault(text.substring(0, fault), sort);
            Check.due("ahead of the fault of '" + text + "'", before == -1 || before == fault || before == fault - 1, true);
        }
    }

    private static void takingOver() {
        BuriedGoods x = new BuriedGoods();
        Check.due("text of nothing", x.text(0), -1);
        Check.due("law of nothing", x.text(1), -1);
        Check.feed(x, "y:1");
        Check.due("a law is no field", x.text(0), -1);
        Check.due("no such sort", x.text(2), -1);
        Check.due("no such sort", x.text(-1), -1);
        Check.due("the tape stays", x.count(3), 3);
        Check.due("a law without a field", x.text(1), 0);
        Check.due("the tape is empty", x.count(3), 0);
        Check.due("none holds of itself", x.count(4), -1);
        for (int i = 1; i < 4; i++) {
            Check.due("law " + i, Check.law(x, "y:" + i), i);
        }
        Check.due("a fifth law", Check.law(x, "y:5"), -1);
        Check.due("its tape stays", x.count(3), 3);
        Check.due("four laws", x.count(2), 4);
        Check.due("no fault", x.fault(1), -1);
        x.end(0);
        Check.feed(x, "t;tp3;t");
        Check.due("three things", x.text(0), 3);
        everythingGoesButLaws(x);
    }

    private static void everythingGoesButLaws(BuriedGoods x) {
        x.law(2);
        x.moles(7);
        x.months(3);
        x.give(0);
        x.seen(0, 0, 1, 1, true);
        x.image();
        Check.feed(x, "s k5");
        Check.due("a new field", x.text(0), 0);
        int[] want = {0, 0, 4, 0, 2, 0, 7, 0, 0, 0};
        for (int what = 0; what < want.length; what++) {
            Check.due("count(" + what + ") of a new field", x.count(what), want[what]);
        }
        Check.due("coins", x.rule(4), 5);
        Check.due("no image", x.back(), -1);
        Check.due("nothing to undo", x.undo(), -1);
        Check.due("no log", x.log(0, 0), -1);
        Check.due("nothing lies", x.lies(3), -1);
        Check.status(x, 0, 1, 0, 0, 0);
        String before = Check.seen(x);
        Check.feed(x, "s;");
        x.fault(0);
        Check.due("refused", x.text(0), -1);
        x.end(0);
        Check.same("a refused text changes nothing", Check.seen(x), before);
    }
}
