/** The bounds that Terms 1 names for FIELDS, and the tape's (promises 2 to 9): each letter's number, digits, how many clauses. */
public final class EdgeFieldTest {
    private static final String[] HEADS = {"sw", "sh", "sy", "sf", "sk", "rd", "tv", "ts", "tp", "tm"};
    private static final int[] LEAST = {1, 1, 1, 0, 0, 0, 1, 0, 0, 0};
    private static final int[] MOST = {6, 4, 24, 9, 99, 9, 99, 5, 23, 99};
    private static final int[] WITHOUT = {4, 3, 12, 2, 30, 3, 10, 0, -1, 0};

    public static void main(String[] args) {
        whatMayFollow();
        zeroByItself();
        numbersOfEachLetter();
        thirdDigits();
        lettersOnce();
        lettersLeftOut();
        howManyClauses();
        anyOrder();
        plotsThatAreThere();
        rowsThatItHas();
        severalFaults();
        blanks();
        tapeToTheBrim();
        tapeCut();
        toldThings();
        whatANewFieldLeaves();
        oneTextBehindAnother();
        Check.finish("EdgeFieldTest");
    }

    /** Which of all bytes may stand behind what stands ahead. */
    private static void whatMayFollow() {
        String[][] rows = {{"", "srt "}, {" ", "srt "}, {"s", "whyfk; "}, {"r", "d; "}, {"t", "vspm; "}, {"s ", "whyfk; "},
            {"r ", "d; "}, {"t ", "vspm; "}, {"s;", "rt "}, {"s; ", "rt "}, {"r;", "srt "}, {"t;", "srt "}, {"t;s;", "rt "},
            {"sw", "123456 "}, {"sh", "1234 "}, {"sy", "123456789 "}, {"sf", "0123456789 "}, {"sk", "0123456789 "},
            {"rd", "0123456789 "}, {"tv", "123456789 "}, {"ts", "012345 "}, {"tp", "0123456789 "}, {"tm", "0123456789 "},
            {"sw ", "123456 "}, {"tv ", "123456789 "}, {"sw4", "hyfk; "}, {"sf9", "whyk; "},
            {"sy1", "0123456789whfk; "}, {"sy2", "01234whfk; "}, {"sy3", "whfk; "}, {"sf0", "0123456789whyk; "}, {"sf1", "whyk; "},
            {"sk9", "0123456789whyf; "}, {"rd0", "0123456789; "}, {"rd1", "; "}, {"tv9", "0123456789spm; "},
            {"ts0", "012345vpm; "}, {"ts1", "vpm; "}, {"tp0", "0123456789vsm; "},
            {"tp1", "0123456789vsm; "}, {"tp2", "0123vsm; "}, {"tp3", "vsm; "}, {"tm9", "0123456789vsp; "},
            {"sw4 ", "hyfk; "}, {"sy12", "whfk; "}, {"sy1 ", "whfk; "}, {"sw1h1y1f1k1", "0123456789; "}, {"sw1h1y1f1k12", "; "},
            {"sk1f1y1h1w1", "; "}, {"tv1s1p1m12", "; "}, {"tv1 s1 p1 m1 ", "; "}, {"rd1 ", "; "}, {"s;r;r;r;r;", "t "},
            {"r;r;r;r;", "st "}, {"t;t;t;t;t;t;t;t;", "sr "}, {"sh4;r;r;r;r;t;t;t;t;t;t;t;t;", " "},
            {"sh4;r;r;r;r;t;t;t;t;t;t;t;t", "vspm; "}, {"t;t;t;t;t;t;t", "vspm; "}, {"t;t;t;t;t;t;t;", "srt "}};
        for (String[] row : rows) {
            for (int b = 1; b < 256; b++) {
                String text = row[0] + (char) b;
                int fault = Check.fault(text, 0);
                if (row[1].indexOf(b) >= 0) {
                    Check.due("'" + text + "' may go on: " + fault, fault == -1 || fault == text.length(), true);
                } else {
                    Check.due("'" + row[0] + "' and byte " + b, fault, row[0].length());
                }
            }
        }
    }

    /** A 0 out of bounds is wrong itself, but for a second digit behind it, which is the last one then. */
    private static void zeroByItself() {
        String[] heads = {"sw", "sh", "sy", "tv"};
        int[] most = {6, 4, 9, 9};
        for (int i = 0; i < heads.length; i++) {
            Check.fault(heads[i] + "0", 0, 2);
            for (int b = 1; b < 256; b++) {
                boolean inside = b >= '1' && b <= '0' + most[i];
                Check.fault(heads[i] + "0" + (char) b, 0, inside ? -1 : b >= '0' && b <= '9' ? 3 : 2);
            }
        }
    }

    private static String digits(int n) {
        return n < 10 ? "0" + n : Integer.toString(n);
    }

    private static int told(String head, int n) {
        String field = head.equals("tp") ? "sw6h4;tp" + digits(n) : head + n;
        BuriedGoods x = Check.field(field);
        switch (head) {
            case "sw": return x.rule(0);
            case "sh": return x.rule(1);
            case "sy": return x.rule(2);
            case "sf": return x.rule(3);
            case "sk": return x.rule(4);
            case "rd": return x.damp(0);
            case "tv": return x.thing(0, 0);
            case "ts": return x.thing(0, 1);
            case "tp": return x.thing(0, 2);
            default: return x.thing(0, 3);
        }
    }

    private static void numbersOfEachLetter() {
        for (int i = 0; i < HEADS.length; i++) {
            String head = HEADS[i].charAt(0) == 's' ? HEADS[i] : "sw6h4;" + HEADS[i];
            for (int n = 0; n < 100; n++) {
                boolean inside = n >= LEAST[i] && n <= MOST[i];
                Check.fault(head + digits(n), 0, inside ? -1 : head.length() + 1);
                Check.fault(head + digits(n) + ";t", 0, inside ? -1 : head.length() + 1);
                if (n < 10) {
                    Check.fault(head + n, 0, inside ? -1 : head.length());
                    Check.fault(head + n + " ;t", 0, inside ? -1 : head.length());
                }
                if (inside) {
                    Check.due("told " + HEADS[i] + n, told(HEADS[i], n), n);
                }
            }
            Check.fault(head, 0, head.length());
            Check.fault(head + "-1", 0, head.length());
            Check.fault(head + "+1", 0, head.length());
            Check.fault(head + "x", 0, head.length());
        }
    }

    /** A third digit is wrong itself, whatever stands ahead of it. */
    private static void thirdDigits() {
        for (String head : HEADS) {
            for (int n = 0; n < 100; n++) {
                for (int d = 0; d < 10; d++) {
                    Check.fault(head + digits(n) + d, 0, 4);
                }
                Check.fault(" " + head + " " + digits(n) + "1;x", 0, 6);
            }
            Check.fault(head + "000000", 0, 4);
        }
    }

    private static void lettersOnce() {
        String[] all = {"sw1h1y1f1k1", "rd1", "tv1s1p1m1"};
        for (String clause : all) {
            for (int i = 1; i < clause.length(); i += 2) {
                char letter = clause.charAt(i);
                Check.fault(clause + letter, 0, clause.length());
                Check.fault(clause + " " + letter + "1", 0, clause.length() + 1);
                Check.fault(clause.charAt(0) + "" + letter + "1" + letter + "1", 0, 3);
                Check.fault(clause.charAt(0) + "" + letter + "1 " + letter, 0, 4);
            }
        }
        Check.fault("sh2;rd1;rd1;tv1s1m1;tv1s1m1", 0, -1);
        Check.fault("tp1;tp2;tp3;tp4;tp5;tp6;tp7;tp8", 0, -1);
    }

    private static void lettersLeftOut() {
        BuriedGoods x = Check.field("s;r;t");
        int[] got = {x.rule(0), x.rule(1), x.rule(2), x.rule(3), x.rule(4), x.damp(0), x.thing(0, 0), x.thing(0, 1), x.thing(0, 2),
            x.thing(0, 3)};
        for (int i = 0; i < HEADS.length; i++) {
            Check.due("without " + HEADS[i], got[i], WITHOUT[i]);
        }
        String[] some = {"w5", "h2", "y7", "f4", "k8"};
        for (int left = 0; left < 5; left++) {
            StringBuilder text = new StringBuilder("s");
            for (int i = 4; i >= 0; i--) {
                text.append(i == left ? "" : some[i]);
            }
            BuriedGoods y = Check.field(text.toString());
            for (int i = 0; i < 5; i++) {
                Check.due("rule(" + i + ") of " + text, y.rule(i), i == left ? WITHOUT[i] : some[i].charAt(1) - '0');
            }
        }
        String[] thing = {"v5", "s2", "p7", "m4"};
        for (int left = 0; left < 4; left++) {
            StringBuilder text = new StringBuilder("t");
            for (int i = 3; i >= 0; i--) {
                text.append(i == left ? "" : thing[i]);
            }
            BuriedGoods y = Check.field(text.toString());
            for (int i = 0; i < 4; i++) {
                Check.due("thing(0, " + i + ") of " + text, y.thing(0, i), i == left ? WITHOUT[6 + i] : thing[i].charAt(1) - '0');
            }
            Check.due("a stake of " + text, y.thing(0, 4), left == 2 ? 0 : 1);
        }
    }

    private static void howManyClauses() {
        Check.fault("", 0, 0);
        Check.fault("s;s", 0, 2);
        Check.fault("t;s;s", 0, 4);
        Check.fault("s;t;r;s;t", 0, 6);
        Check.fault("s; s", 0, 3);
        for (int rows = 1; rows <= 5; rows++) {
            Check.fault("sh4" + ";r".repeat(rows), 0, rows < 5 ? -1 : 12);
            Check.fault("r;".repeat(rows) + "sh4", 0, rows < 5 ? -1 : 8);
            Check.fault("r;t;".repeat(rows) + "sh4", 0, rows < 5 ? -1 : 16);
        }
        for (int things = 1; things <= 9; things++) {
            Check.fault("t;".repeat(things) + "s", 0, things < 9 ? -1 : 16);
            Check.fault("t" + ";t".repeat(things - 1), 0, things < 9 ? -1 : 16);
            Check.due("told " + things, Check.field("t;".repeat(Math.min(8, things)) + "r").count(0), Math.min(8, things));
        }
        Check.fault("sh4;r;r;r;r;t;t;t;t;t;t;t;t", 0, -1);
        Check.fault("sh4;r;r;r;r;t;t;t;t;t;t;t;t;", 0, 28);
        Check.fault("sh4;r;r;r;r;t;t;t;t;t;t;t;t;t", 0, 28);
        Check.fault("sh4;r;r;r;r;t;t;t;t;t;t;t;t;r", 0, 28);
        Check.fault("sh4;r;r;r;r;t;t;t;t;t;t;t;t;s", 0, 28);
    }

    private static void anyOrder() {
        String[] texts = {"sh2;rd1;rd2;tv5;tv6", "tv5;rd1;sh2;tv6;rd2", "rd1;tv5;rd2;tv6;sh2", "tv5;tv6;rd1;rd2;sh2"};
        for (String text : texts) {
            BuriedGoods x = Check.field(text);
            Check.due("rows of " + text, x.rule(1), 2);
            Check.due("damp(0) of " + text, x.damp(0), 1);
            Check.due("damp(1) of " + text, x.damp(1), 2);
            Check.due("damp(2) of " + text, x.damp(2), -1);
            Check.due("first of " + text, x.thing(0, 0), 5);
            Check.due("second of " + text, x.thing(1, 0), 6);
            Check.due("third of " + text, Check.thing(x, 2, 0), Check.THROWN);
        }
    }

    /** A plot that is not there and two in one are seen at the end, wherever the rules are told. */
    private static void plotsThatAreThere() {
        for (int wide = 1; wide <= 6; wide++) {
            for (int rows = 1; rows <= 4; rows++) {
                int plots = wide * rows;
                String rules = "sw" + wide + "h" + rows;
                for (int p = 0; p < 24; p++) {
                    String first = rules + ";tp" + p;
                    String last = "tp" + p + ";" + rules;
                    Check.fault(first, 0, p < plots ? -1 : first.length());
                    Check.fault(last, 0, p < plots ? -1 : last.length());
                }
                BuriedGoods x = Check.field(rules + ";tp" + (plots - 1));
                Check.due("lies at the end of " + rules, x.lies(plots - 1), 0);
                Check.due("lies behind the end of " + rules, x.lies(plots), -1);
                Check.due("free of " + rules, x.most(8), plots - 1);
            }
        }
        Check.fault("tp11", 0, -1);
        Check.fault("tp12", 0, 4);
        for (int p = 0; p < 12; p++) {
            String twice = "tp" + p + ";tv3p" + digits(p);
            Check.fault(twice, 0, twice.length());
            Check.fault(twice + "   ", 0, twice.length() + 3);
            Check.fault("tp" + p + ";tv3p" + digits((p + 1) % 12), 0, -1);
        }
        Check.fault("tp0;tp1;tp2;tp3;tp4;tp5;tp6;tp0", 0, 31);
        Check.fault("tp0;tp1;tp2;tp3;tp4;tp5;tp6;tp6", 0, 31);
        Check.fault("tp0;tp1;tp2;tp3;tp4;tp5;tp6;tp7", 0, -1);
    }

    private static void rowsThatItHas() {
        for (int h = 1; h <= 4; h++) {
            for (int told = 0; told <= 4; told++) {
                String first = "sh" + h + ";r".repeat(told);
                String last = "r;".repeat(told) + "sh" + h;
                Check.fault(first, 0, told <= h ? -1 : first.length());
                Check.fault(last, 0, told <= h ? -1 : last.length());
            }
        }
        Check.fault("r;r;r", 0, -1);
        Check.fault("r;r;r;r", 0, 7);
        BuriedGoods x = Check.field("rd9;sh4;rd0");
        int[] damps = {9, 0, 3, 3};
        for (int row = 0; row < 4; row++) {
            Check.due("damp(" + row + ")", x.damp(row), damps[row]);
        }
    }

    /** What is wrong at a byte stands ahead of what only the end shows. */
    private static void severalFaults() {
        Check.fault("r;r;r;r;tp1;tp1;tp99", 0, 19);
        Check.fault("r;r;r;r;tp1;tp1;tp23", 0, 20);
        Check.fault("tp1;tp1;s;s", 0, 10);
        Check.fault("tp1;tp1;", 0, 8);
        Check.fault("tp12;tv1v1", 0, 8);
        Check.fault("r;r;r;r;r", 0, 8);
        Check.fault("sw7w7", 0, 2);
        Check.fault("sw77w", 0, 3);
        Check.fault("sh1;r;r;r;r;r", 0, 12);
    }

    private static void blanks() {
        Check.fault("  s  w  4  h  3  y  12  f  2  k  30  ;  r  d  9  ;  t  v  9  s  5  p  3  m  99  ", 0, -1);
        Check.fault("s w1 2", 0, 5);
        Check.fault("s k1 2", 0, 5);
        Check.fault("t v 9 9", 0, 6);
        Check.fault("s ;", 0, 3);
        Check.fault("s ; ", 0, 4);
        for (int blanks = 0; blanks < 5; blanks++) {
            Check.fault(" ".repeat(blanks), 0, blanks);
            Check.fault("tp12" + " ".repeat(blanks), 0, 4 + blanks);
            Check.fault("tv" + " ".repeat(blanks), 0, 2 + blanks);
            Check.fault("t" + " ".repeat(blanks) + "x", 0, 1 + blanks);
        }
        for (int b : new int[] {1, 9, 10, 11, 12, 13, 31, 33, 127, 128, 160, 255}) {
            Check.fault("s" + (char) b, 0, 1);
            Check.fault((char) b + "s", 0, 0);
            Check.fault("sw" + (char) b + "1", 0, 2);
        }
    }

    private static void tapeToTheBrim() {
        String text = "s".concat(" ".repeat(235)).concat("w6h4");
        BuriedGoods x = new BuriedGoods();
        Check.due("240 bytes", Check.feed(x, text), 240);
        Check.due("no fault", x.fault(0), -1);
        Check.due("told", x.text(0), 0);
        Check.due("w", x.rule(0), 6);
        Check.due("h", x.rule(1), 4);
        Check.due("empty", x.count(3), 0);
        Check.due("240 bytes again", Check.feed(x, text), 240);
        Check.due("a fault at the last", Check.fault(text.substring(0, 239) + "5", 0), 239);
        Check.due("too early", Check.fault(text.substring(0, 239) + "h", 0), 239);
        Check.due("all blank", Check.fault(" ".repeat(240), 0), 240);
        Check.due("clauses all along", Check.fault("r;r;" + "t m99 v99 s05;".repeat(8) + " ".repeat(120) + "s h4", 0), -1);
        x = new BuriedGoods();
        for (int i = 1; i <= 240; i++) {
            int word = 't' << 8 * (i % 4);
            Check.due("byte " + i, i % 5 == 0 ? x.feed(word, 0, 0, 0, 0) : i % 5 == 1 ? x.feed(0, word, 0, 0, 0)
                : i % 5 == 2 ? x.feed(0, 0, word, 0, 0) : i % 5 == 3 ? x.feed(0, 0, 0, word, 0) : x.feed(0, 0, 0, 0, word), i);
        }
        Check.due("byte 241", x.feed(0, 0, 1, 0, 0), -1);
        Check.due("240 still", x.count(3), 240);
        Check.due("end(219)", x.end(219), true);
        Check.due("221 and twenty", x.feed(0x01010101, 0x01010101, 0x01010101, 0x01010101, 0x01010101), 239);
        Check.due("239 and two", x.feed(0x01000000, 0x01000000, 0, 0, 0), -1);
        Check.due("239 and one", x.feed(0, 0, 0, 0x00010000, 0), 240);
        Check.due("240 and none", x.feed(0, 0, 0, 0, 0), 240);
        BuriedGoods y = new BuriedGoods();
        Check.due("of MAX four bytes", y.feed(Integer.MAX_VALUE, 0, 0, 0, 0), 4);
        Check.due("of MIN one byte", y.feed(Integer.MIN_VALUE, 0, 0, 0, 0), 5);
        Check.due("of -1 four bytes", y.feed(0, 0, 0, 0, -1), 9);
        Check.due("of 256 one byte", y.feed(0, 256, 0, 0, 0), 10);
    }

    private static void tapeCut() {
        BuriedGoods x = new BuriedGoods();
        Check.feed(x, "t v5; t v6; x");
        Check.due("the fault", x.fault(0), 12);
        Check.due("end(12)", x.end(12), true);
        Check.due("the fault is cut off, but too early", x.fault(0), 12);
        Check.due("end(10)", x.end(10), true);
        Check.due("how long", x.count(3), 10);
        Check.due("no longer", x.end(11), false);
        Check.due("just so", x.end(10), true);
        Check.due("no fault", x.fault(0), -1);
        Check.due("what was cut off is gone", Check.feed(x, ";s"), 12);
        Check.due("no fault", x.fault(0), -1);
        Check.due("two things", x.text(0), 2);
        Check.due("the second", x.thing(1, 0), 6);
        Check.due("end(0) of none", x.end(0), true);
        Check.due("end(1) of none", x.end(1), false);
    }

    private static void toldThings() {
        StringBuilder text = new StringBuilder("sw2h4");
        for (int at = 0; at < 8; at++) {
            text.append(";tp").append(7 - at).append("v").append(90 + at);
        }
        BuriedGoods x = Check.field(text.toString());
        Check.due("eight told", x.count(0), 8);
        for (int at = 0; at < 8; at++) {
            Check.due("value of " + at, x.thing(at, 0), 90 + at);
            Check.due("plot of " + at, x.thing(at, 2), 7 - at);
            Check.due("lies(" + (7 - at) + ")", x.lies(7 - at), at);
        }
        Check.due("a full field", x.most(8), 0);
        Check.due("a ninth", Check.thing(x, 8, 0), Check.THROWN);
        Check.due("no more can be bought", x.buy(1, 0), -1);
        BuriedGoods none = Check.field("s");
        Check.due("none told", none.count(0), 0);
        for (int at = 0; at < 8; at++) {
            Check.due("place " + at, Check.thing(none, at, 0), Check.THROWN);
        }
        Check.due("an empty field", none.most(8), 12);
        BuriedGoods one = Check.field("sw1h1;tp0");
        Check.due("one plot", one.lies(0), 0);
        Check.due("no second", one.lies(1), -1);
    }

    /** All that was of another field is gone but laws, which holds, moles, STATUS. */
    private static void whatANewFieldLeaves() {
        BuriedGoods x = Check.field("s y1;r d9;t p0 v50 m3;t m4", "y:7");
        Check.law(x, "y:2");
        x.moles(0);
        x.months(0);
        x.give(1);
        x.months(60);
        x.image();
        x.lose(0);
        x.seen(0, 0, 1, 200, true);
        x.lose(0);
        Check.feed(x, "t p0 v5");
        Check.due("the new one", x.text(0), 1);
        Check.due("value", x.thing(0, 0), 5);
        Check.due("months", x.thing(0, 3), 0);
        Check.due("a stake again", x.thing(0, 4), 1);
        Check.due("a second one is gone", Check.thing(x, 1, 0), Check.THROWN);
        Check.due("coins", x.rule(4), 30);
        Check.due("year", x.rule(2), 12);
        Check.due("damp", x.damp(0), 3);
        int[] counts = {1, 1, 2, 0, 0, 0, 0, 0, 0, 0};
        for (int what = 0; what < 10; what++) {
            Check.due("count(" + what + ")", x.count(what), counts[what]);
        }
        Check.due("damps", x.damps(0, -1), 10);
        Check.due("back", x.back(), -1);
        Check.due("undo", x.undo(), -1);
        Check.due("log", x.log(0, 0), -1);
        Check.status(x, 0, 1, 0, 1, 0);
        x.months(1);
        Check.due("by the law that holds", x.thing(0, 0), 12);
        x.law(1);
        x.months(1);
        Check.due("by the other one", x.thing(0, 0), 14);
        Check.due("the log is the new one's", x.count(8), 2);
    }

    /** Nothing of a text that was read ahead, taken or not, is left in the next one. */
    private static void oneTextBehindAnother() {
        BuriedGoods x = Check.field("sw6h4y24f9k99;rd9;rd8;rd7;rd6" + ";tv99s5m99p0;tv98s4m98p1;tv97s3m97p2;tv96s2m96p3");
        Check.feed(x, "r;t;t;t;t;t;t;t;t");
        Check.due("no fault", x.fault(0), -1);
        Check.due("nor asked again", x.fault(0), -1);
        Check.due("the field is as it was", x.rule(0), 6);
        Check.due("and its things", x.thing(0, 0), 99);
        Check.due("eight", x.text(0), 8);
        int[] rules = {4, 3, 12, 2, 30};
        for (int what = 0; what < 5; what++) {
            Check.due("rule(" + what + ")", x.rule(what), rules[what]);
        }
        for (int row = 0; row < 4; row++) {
            Check.due("damp(" + row + ")", x.damp(row), row < 3 ? 3 : -1);
        }
        int[] thing = {10, 0, -1, 0, 0};
        for (int at = 0; at < 8; at++) {
            for (int what = 0; what < 5; what++) {
                Check.due("thing(" + at + ", " + what + ")", x.thing(at, what), thing[what]);
            }
        }
        Check.feed(x, "sw6h4y1;r;r;r;r;tp23v99;t;t w");
        Check.due("a fault", x.fault(0), 28);
        Check.due("the same again", x.fault(0), 28);
        Check.due("no text", x.text(0), -1);
        Check.due("the field is as it was", x.rule(0), 4);
        Check.due("and its things", x.thing(0, 0), 10);
        Check.due("cut", x.end(28), true);
        for (int i = 0; i < 3; i++) {
            Check.due("no fault now", x.fault(0), -1);
        }
        Check.due("three", x.text(0), 3);
        Check.due("there", x.lies(23), 0);
        Check.feed(x, "y:[[[1");
        Check.due("too early", x.fault(1), 6);
        Check.due("too early", x.fault(1), 6);
        Check.due("no field", x.fault(0), 0);
        Check.feed(x, "]]]");
        Check.due("a law", x.fault(1), -1);
        Check.due("a law", x.text(1), 0);
        Check.due("its own", Check.law(x, "y:3"), 1);
        x.law(0);
        Check.due("by the first", x.grown(0, 1), 100);
        x.law(1);
        Check.due("by the second", x.grown(0, 1), 102);
    }
}
