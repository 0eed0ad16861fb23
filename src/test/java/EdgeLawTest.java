/** The bounds that Terms 1 names for LAWS: what may follow, digits, depth, numbers behind each sign, the clause that holds. */
public final class EdgeLawTest {
    private static final String DIGITS = "0123456789";
    private static final String ATOM = "0123456789vsdmnt[ ";
    private static final String UNIT = "0123456789vsdmnt[!( ";

    public static void main(String[] args) {
        whatMayFollow();
        digits();
        depths();
        depthsBesideOneAnother();
        heldBehindEachSign();
        division();
        whatBindsFirst();
        comparing();
        truths();
        clauses();
        worthHeld();
        letters();
        months();
        neighbours();
        heldBack();
        fourLaws();
        lawAsLongAsTheTape();
        Check.finish("EdgeLawTest");
    }

    /** Which of all bytes may stand behind what stands ahead. */
    private static void whatMayFollow() {
        String[][] rows = {{"", "y "}, {" ", "y "}, {"y", ": "}, {"y ", ": "}, {"y:", UNIT}, {"y: ", UNIT},
            {"y:1", DIGITS + "+-*/=<>; "}, {"y:0", DIGITS + "+-*/=<>; "}, {"y:123", DIGITS + "+-*/=<>; "},
            {"y:1234", "+-*/=<>; "}, {"y:1 ", "+-*/=<>; "}, {"y:v", "+-*/=<>; "}, {"y:v+", ATOM}, {"y:v-", ATOM}, {"y:v*", ATOM},
            {"y:v/", ATOM}, {"y:v+s", "+-*/=<>; "}, {"y:v*s", "+-*/=<>; "}, {"y:v=", ATOM}, {"y:v<", ATOM}, {"y:v>", ATOM},
            {"y:v=s", "+-*/&|? "}, {"y:v=1", DIGITS + "+-*/&|? "}, {"y:v=s+t", "+-*/&|? "}, {"y:v=s&", UNIT}, {"y:v=s|", UNIT},
            {"y:v=s&s", "+-*/=<> "}, {"y:v=s|s", "+-*/=<> "}, {"y:v=s&s=t", "+-*/&|? "}, {"y:v=s?", ATOM}, {"y:v=s?d", "+-*/; "},
            {"y:v=s?1", DIGITS + "+-*/; "}, {"y:v=s?1 ", "+-*/; "}, {"y:v=s?d+", ATOM}, {"y:v=s?d;", "y "}, {"y:v;", "y "},
            {"y:v;y", ": "}, {"y:v;y:", UNIT}, {"y:!", UNIT}, {"y:!v", "+-*/=<> "}, {"y:!v=s", "+-*/&|? "}, {"y:!!", UNIT},
            {"y:(", UNIT}, {"y:(v", "+-*/=<> "}, {"y:(1", DIGITS + "+-*/=<> "}, {"y:(v=", ATOM}, {"y:(v=s", "+-*/&|) "},
            {"y:(v=s&", UNIT}, {"y:(v=s)", "&|? "}, {"y:(v=s) ", "&|? "}, {"y:((v=s)", "&|) "}, {"y:(!v=s", "+-*/&|) "},
            {"y:!(v=s", "+-*/&|) "}, {"y:!(v=s)", "&|? "}, {"y:(v=s)?", ATOM}, {"y:[", ATOM}, {"y:[v", "+-*/] "},
            {"y:[1", DIGITS + "+-*/] "}, {"y:[v+", ATOM}, {"y:[v]", "+-*/=<>; "}, {"y:[v]*", ATOM}, {"y:[[v]", "+-*/] "},
            {"y:v=[s", "+-*/] "}, {"y:v=[s]", "+-*/&|? "}, {"y:([v]", "+-*/=<> "}, {"y:v=s?[d", "+-*/] "}, {"y:v=s?[d]", "+-*/; "},
            {"y:v=s|(v=s", "+-*/&|) "}, {"y:v=s&!v", "+-*/=<> "}, {"y:v;y:v=s?d", "+-*/; "}, {"y:[[[[[[", "0123456789vsdmnt "},
            {"y:((((((", "0123456789vsdmnt "}, {"y:!!!!!!", "0123456789vsdmnt "}, {"y:!!!!!", UNIT}, {"y:(((((", UNIT}, {"y:[[[[[", ATOM},
            {"y:!(!([[", "0123456789vsdmnt "}, {"y:((((((v=", "0123456789vsdmnt "}, {"y:(((((v=", ATOM}, {"y:((((((v=s&", "0123456789vsdmnt "}};
        for (String[] row : rows) {
            for (int b = 1; b < 256; b++) {
                String text = row[0] + (char) b;
                int fault = Check.fault(text, 1);
                if (row[1].indexOf(b) >= 0) {
                    Check.due("'" + text + "' may go on: " + fault, fault == -1 || fault == text.length(), true);
                } else {
                    Check.due("'" + row[0] + "' and byte " + b, fault, row[0].length());
                }
            }
        }
    }

    /** One to four digits; a fifth one is wrong itself. */
    private static void digits() {
        String[] ahead = {"y:", "y:v+", "y:v=", "y:[", "y:(v<", "y:!", "y:v=s?", "y:1;y:"};
        String[] behind = {"", "", "?1", "]", ")?1", "=1?1", "", ""};
        for (int i = 0; i < ahead.length; i++) {
            String number = "";
            for (int digit = 1; digit <= 4; digit++) {
                number = number + (digit * 3) % 10;
                Check.fault(ahead[i] + number + behind[i], 1, -1);
            }
            for (int b = '0'; b <= '9'; b++) {
                Check.fault(ahead[i] + number + (char) b + behind[i], 1, ahead[i].length() + 4);
                Check.fault(ahead[i] + "0000" + (char) b + behind[i], 1, ahead[i].length() + 4);
            }
            Check.fault(ahead[i] + "99999", 1, ahead[i].length() + 4);
            Check.fault(ahead[i] + "12 3", 1, ahead[i].length() + 3);
        }
        is("0007", "7");
        is("9999", "9000+999", "9*1111");
        is("0", "00", "000", "0000");
    }

    /** Six of ( [ ! within one another in all ways that there are; the seventh is wrong at it. */
    private static void depths() {
        for (int brackets = 0; brackets <= 6; brackets++) {
            int truths = 6 - brackets;
            for (int way = 0; way < 1 << truths; way++) {
                StringBuilder open = new StringBuilder("y:");
                StringBuilder close = new StringBuilder();
                for (int i = 0; i < truths; i++) {
                    boolean not = (way >> i & 1) == 1;
                    open.append(not ? '!' : '(');
                    close.append(not ? "" : ")");
                }
                open.append("[".repeat(brackets));
                Check.fault(open + "v" + "]".repeat(brackets) + "=1" + close + "?1", 1, -1);
                Check.fault(open + "[", 1, 8);
                Check.fault(open + "[1", 1, 8);
                Check.fault(open + "(", 1, 8);
                Check.fault(open + "!", 1, 8);
                Check.fault(open + " [", 1, 9);
                Check.fault(open + "v" + "]".repeat(brackets) + "=" + "[".repeat(brackets) + "v" + "]".repeat(brackets) + close + "?1", 1, -1);
                String second = open + "v" + "]".repeat(brackets) + "=" + "[".repeat(brackets);
                Check.fault(second + "[", 1, second.length());
            }
        }
        Check.fault("y:v=1?[[[[[[v]]]]]]", 1, -1);
        Check.fault("y:v=1?[[[[[[[v]]]]]]]", 1, 12);
        Check.fault("y:!!!!!!v=1?[[[[[[v]]]]]]", 1, -1);
        Check.fault("y:!!!!!!v=1?[[[[[[[", 1, 18);
    }

    private static void depthsBesideOneAnother() {
        Check.fault("y:" + "[1]+".repeat(50) + "1", 1, -1);
        Check.fault("y:" + "[[[[[[1]]]]]]*".repeat(15) + "1", 1, -1);
        Check.fault("y:" + "((((((1=1))))))&".repeat(13) + "1=1?1", 1, -1);
        Check.fault("y:" + "!!!!!!1=1|".repeat(20) + "1=1?1", 1, -1);
        Check.fault("y:!!!!!!1=1&[[[[[[1]]]]]]=1&((((((1=1))))))?1;y:[[[[[[1]]]]]]", 1, -1);
        Check.fault("y:(1=1&(1=1&(1=1&(1=1&(1=1&(1=1))))))?1", 1, -1);
        Check.fault("y:(1=1&(1=1&(1=1&(1=1&(1=1&(1=1&(", 1, 32);
        Check.fault("y:!(1=1)&!!!!!!(", 1, 15);
        Check.fault("y:[1]+[[[[[[[1", 1, 12);
        Check.fault("y:(((1=1)))&(((((((1", 1, 18);
        Check.fault("y:((((((1=1)&([", 1, 14);
        Check.fault("y:((((((1=1)&[[", 1, 14);
        Check.fault("y:((((((1=1)&[1]=1)|1=1))))?1", 1, -1);
        Check.fault("y:((((((1=1)&[1]=1)|[[1]]=1))))?1", 1, -1);
        Check.fault("y:((((((1=1)&[1]=1)|[[[1]]]=1))))?1", 1, 22);
    }

    /** Whether a sum comes to each of some others, asked by a law. */
    private static void is(String sum, String... others) {
        for (String other : others) {
            Check.due(sum + " is " + other, grows(sum + "=" + other + "?3;y:1"), 3);
        }
    }

    private static void isNot(String sum, String other) {
        Check.due(sum + " is " + other, grows(sum + "=" + other + "?3;y:1"), 1);
    }

    private static void holds(String condition, boolean due) {
        Check.due(condition, grows(condition + "?3;y:1"), due ? 3 : 1);
    }

    /** By how much a thing worth 50 is worth more behind a month. */
    private static int grows(String law) {
        BuriedGoods x = Check.field("rd3;tp0v50s2m7", "y:" + law);
        return x.grown(0, 1) - 50;
    }

    private static void heldBehindEachSign() {
        String most = "1000*1000";
        String least = "0-1000*1000";
        is("1000*1000", "[999*1000+1000]", "1000*999+1000");
        isNot("1000*999+999", most);
        holds("1000*999+999<1000*1000", true);
        is("1000*999+999+1", most);
        is("1000*999+999+2", most);
        is("1000*1000+1", most);
        is("1000*1000+9999", most);
        is("1000*1000+1-1", "1000*999+999");
        is("1001*1000", most);
        is("1001*999", "1000*999+999");
        is("9999*9999", most);
        is("9999*9999/1000", "1000");
        is("9999*101", most);
        is("9999*100", "9999*99+9999");
        is("0-1000*1000", "0-9999*9999");
        isNot("0-1000*999-999", least);
        is("0-1000*999-999-1", least);
        is("0-1000*999-999-2", least);
        is("0-1000*1000-1", least);
        is("0-1000*1000-9999", least);
        is("0-1000*1000-1+1", "0-1000*999-999");
        is("[0-1001]*1000", least);
        is("[0-1001]*999", "0-1000*999-999");
        is("[0-9999]*9999", least);
        is("[0-9999]*[0-9999]", most);
        is("[0-9999*9999]*[9999*9999]", least);
        is("[9999*9999]*[9999*9999]", most);
        is("[0-9999*9999]-9999*9999", least);
        is("[0-9999*9999]/[0-1]", most);
        is("9999*9999/[0-1]", least);
        is("9999*9999-9999*9999", "0");
        is("0-9999*9999+9999*9999", "0");
    }

    private static void division() {
        is("7/2", "3");
        is("8/2", "4");
        is("1/2", "0");
        is("[0-1]/2", "0");
        is("1/[0-2]", "0");
        is("[0-7]/2", "0-3");
        is("7/[0-2]", "0-3");
        is("[0-7]/[0-2]", "3");
        is("[0-8]/3", "0-2");
        is("9999/9999", "1");
        is("9998/9999", "0");
        is("7/0", "0");
        is("0/0", "0");
        is("[0-7]/0", "0");
        is("7/[v-50]", "0");
        is("7/[v-50]+5", "5");
        is("5+7/0*9", "5");
        is("9999*9999/0", "0");
        is("0/7", "0");
        is("0/[0-7]", "0");
    }

    private static void whatBindsFirst() {
        is("2+3*4", "14");
        is("2*3+4", "10");
        is("[2+3]*4", "20");
        is("20-5-3", "12");
        is("20-[5-3]", "18");
        is("20-5+3", "18");
        is("100/10/5", "2");
        is("100/[10/5]", "50");
        is("100/10*5", "50");
        is("100*2/3", "66");
        is("100/3*3", "99");
        is("10-2*3-8/4", "2");
        is("1+[2*[3+[4*[5+[6]]]]]", "95");
    }

    private static void comparing() {
        String[] numbers = {"0-9999", "0-1", "0", "1", "9999"};
        for (int i = 0; i < numbers.length; i++) {
            for (int k = 0; k < numbers.length; k++) {
                holds(numbers[i] + "=" + numbers[k], i == k);
                holds(numbers[i] + "<" + numbers[k], i < k);
                holds(numbers[i] + ">" + numbers[k], i > k);
                holds("!" + numbers[i] + "=" + numbers[k], i != k);
                holds("!" + numbers[i] + "<" + numbers[k], i >= k);
                holds("!" + numbers[i] + ">" + numbers[k], i <= k);
            }
        }
        holds("9999*9999>1000*1000", false);
        holds("9999*9999=1000*1000", true);
        holds("v>49&v<51", true);
        holds("v>50|v<50", false);
    }

    /** All conditions of three units, each true or not. */
    private static void truths() {
        for (int bits = 0; bits < 8; bits++) {
            boolean a = (bits & 1) == 1;
            boolean b = (bits & 2) == 2;
            boolean c = (bits & 4) == 4;
            String p = a ? "v=50" : "v=51";
            String q = b ? "s<3" : "s<2";
            String r = c ? "m>6" : "m>7";
            holds(p + "&" + q + "&" + r, a && b && c);
            holds(p + "|" + q + "|" + r, a || b || c);
            holds(p + "|" + q + "&" + r, a || b && c);
            holds(p + "&" + q + "|" + r, a && b || c);
            holds("(" + p + "|" + q + ")&" + r, (a || b) && c);
            holds(p + "&(" + q + "|" + r + ")", a && (b || c));
            holds("!" + p + "&" + q + "|" + r, !a && b || c);
            holds("!(" + p + "&" + q + ")|" + r, !(a && b) || c);
            holds("!(" + p + "|" + q + ")&" + r, !(a || b) && c);
            holds("!!" + p + "&!" + q + "|!!!" + r, a && !b || !c);
            holds("!(!" + p + "|!" + q + ")&!" + r, a && b && !c);
            holds("!!!!!!" + p, a);
        }
    }

    private static void clauses() {
        int[][] worths = {{0, 0, 7}, {0, 1, 4}, {1, 0, 2}, {1, 1, 2}};
        for (int[] w : worths) {
            Check.due("the first that holds", grows("v=" + (50 + 1 - w[0]) + "?2;y:s=" + (2 + 1 - w[1]) + "?4;y:7;y:9"), w[2]);
        }
        Check.due("none holds", grows("v=51?5"), 0);
        Check.due("none of three holds", grows("v=51?5;y:v=52?6;y:!v=50?7"), 0);
        Check.due("the first has no condition", grows("5;y:6"), 5);
        Check.due("as many as there may be", grows("v=0?1;y:v=0?2;y:v=0?3;y:v=0?4;y:v=0?5;y:v=0?6;y:v=0?7;y:v=0?8;y:9"), 9);
        Check.due("a clause that comes to 0", grows("v=50?0;y:7"), 0);
    }

    private static void worthHeld() {
        String[] sums = {"8", "9", "10", "99", "9999", "9999*9999", "0-8", "0-9", "0-10", "0-9999", "0-9999*9999", "0", "1", "0-1"};
        int[] due = {8, 9, 9, 9, 9, 9, -8, -9, -9, -9, -9, 0, 1, -1};
        for (int i = 0; i < sums.length; i++) {
            Check.due("held: " + sums[i], grows(sums[i]), due[i]);
            Check.due("held: v=50?" + sums[i], grows("v=50?" + sums[i]), due[i]);
            BuriedGoods x = Check.field("tp0v50", "y:" + sums[i]);
            x.months(1);
            Check.due("held in a month: " + sums[i], x.thing(0, 0), 50 + due[i]);
            Check.due("held in the log: " + sums[i], x.log(0, 0), 50 + due[i]);
            x.years(1, 0L);
            Check.due("held in years: " + sums[i], x.thing(0, 0), 50 + 2 * due[i]);
        }
    }

    /** Each letter at its most and least. */
    private static void letters() {
        for (int n = 0; n <= 9; n++) {
            BuriedGoods x = Check.field("rd" + n + ";tp0v50", "y:d=" + n + "?3;y:0");
            Check.due("d " + n, x.grown(0, 1), 53);
        }
        for (int n = 0; n <= 5; n++) {
            BuriedGoods x = Check.field("tp0v50s" + n, "y:s=" + n + "?3;y:0");
            Check.due("s " + n, x.grown(0, 1), 53);
        }
        for (int n = 0; n <= 99; n++) {
            BuriedGoods x = Check.field("tp0v50m" + n, "y:m=" + n + "?3;y:0");
            Check.due("m " + n, x.grown(0, 1), 53);
        }
        for (int n = 1; n <= 99; n++) {
            BuriedGoods x = Check.field("tp0v" + n, "y:v=" + n + "?3;y:0");
            Check.due("v " + n, x.grown(0, 1), n + 3);
        }
        BuriedGoods top = Check.field("tp0v99;tp2v1", "y:9");
        Check.law(top, "y:v=200?0-3;y:v=0?4");
        Check.law(top, "y:0-9");
        top.months(12);
        Check.due("200", top.thing(0, 0), 200);
        top.law(1);
        Check.due("v 200", top.grown(0, 1), 197);
        BuriedGoods low = Check.field("tp0v1", "y:0-9");
        low.months(1);
        Check.due("0", low.thing(0, 0), 0);
        Check.law(low, "y:v=0?4");
        low.law(1);
        Check.due("v 0", low.grown(0, 1), 4);
        BuriedGoods old = Check.field("sf9;tp0v50m98", "y:m=99?3;y:0");
        Check.due("m 99 and no more", old.grown(0, 3), 56);
    }

    /** t goes round behind eleven, by hand and apart, behind the last month too. */
    private static void months() {
        BuriedGoods x = Check.field("tp0v99", "y:t-5");
        int value = 99;
        for (int month = 0; month < 26; month++) {
            Check.due("apart in month " + month, x.grown(0, 1), value + month % 12 - 5);
            x.months(1);
            value += month % 12 - 5;
            Check.due("in month " + month, x.thing(0, 0), value);
        }
        for (int i = 0; i < 16; i++) {
            x.months(60);
        }
        x.months(13);
        Check.due("month 999", x.count(5), 999);
        BuriedGoods y = Check.field("tp0v99", "y:t=11?1;y:t=0?5;y:0");
        for (int i = 0; i < 16; i++) {
            y.months(60);
        }
        y.months(39);
        int last = y.thing(0, 0);
        // 999 goes three months behind a multiple of twelve: 1007 is the next one's eleventh.
        for (int n = 0; n < 30; n++) {
            int due = last;
            for (int month = 999; month < 999 + n; month++) {
                due += month % 12 == 11 ? 1 : month % 12 == 0 ? 5 : 0;
            }
            Check.due("behind the last month by " + n, y.grown(0, n), Math.min(200, due));
        }
    }

    private static void neighbours() {
        BuriedGoods x = Check.field("sw3h3;tp4v50;tp1v50;tp3v50;tp5v50;tp7v50;tp0v50;t", "y:n");
        int[] n = {4, 2, 2, 1, 1, 2};
        for (int at = 0; at < n.length; at++) {
            Check.due("how many lie beside " + at, x.grown(at, 1), 50 + n[at]);
        }
        x.takes(1);
        x.lose(2);
        int[] less = {3, 0, 2, 1, 1, 1};
        for (int at = 0; at < n.length; at++) {
            Check.due("one less beside " + at, x.grown(at, 1), 50 + (at == 1 ? 0 : less[at]));
        }
        x.months(1);
        Check.due("by hand", x.thing(0, 0), 53);
        for (int a = 0; a < 24; a++) {
            for (int b = 0; b < 24; b++) {
                if (a != b) {
                    boolean beside = a / 6 == b / 6 && Math.abs(a - b) == 1 || Math.abs(a - b) == 6;
                    BuriedGoods y = Check.field("sw6h4;tp" + a + "v50;tp" + b, "y:n");
                    Check.due(a + " and " + b + " apart", y.grown(0, 1), beside ? 51 : 50);
                    Check.due(a + " and " + b + ", how many two", y.most(11), beside ? 1 : 0);
                }
            }
        }
        BuriedGoods column = Check.field("sw1h4;tp0;tp1;tp2;tp3", "y:n");
        int[] due = {11, 12, 12, 11};
        for (int at = 0; at < 4; at++) {
            Check.due("in one column " + at, column.grown(at, 1), due[at]);
        }
    }

    /** As much as can be held back while what is within brackets is worked out. */
    private static void heldBack() {
        is("1+2*[3+2*[4+2*[5+2*[6+2*[7+2*[8+2*9]]]]]]", "1+2*3+4*4+8*5+16*6+32*7+64*8+128*9");
        holds("0=1|1=1&(0=1|1=1&(0=1|1=1&(0=1|1=1&1+2*[1+2*[1+2*1]]=15)))", true);
        holds("0=1|1=1&(0=1|1=1&(0=1|1=1&(0=1|1=1&1+2*[1+2*[1+2*1]]=16)))", false);
        holds("0=1|1=1&(0=1|1=1&(0=1|1=1&(0=1|1=1&15=1+2*[1+2*[1+2*1]])))", true);
        holds("1+2*[1+2*[1+2*[1+2*[1+2*[1+2*1]]]]]=1+2*[1+2*[1+2*[1+2*[1+2*[1+2*1]]]]]", true);
        holds("0=1|1=1&!(0=1|1=1&!(0=1|1=1&!(0=1|1=1&0=1)))", true);
    }

    private static void fourLaws() {
        BuriedGoods x = Check.field("tp0v50");
        for (int i = 0; i < 4; i++) {
            Check.due("law " + i + " is not there yet", x.law(i), false);
            Check.due("law " + i, Check.law(x, "y:" + (i + 2)), i);
            Check.due("how many", x.count(2), i + 1);
            Check.due("none holds of itself", x.count(4), -1);
        }
        Check.due("a fifth", Check.law(x, "y:9"), -1);
        Check.due("still four", x.count(2), 4);
        Check.due("its tape", x.count(3), 3);
        for (int i = 3; i >= 0; i--) {
            Check.due("law " + i + " holds", x.law(i), true);
            Check.due("law " + i + " now", x.count(4), i);
            Check.due("by law " + i, x.grown(0, 1), 52 + i);
        }
        Check.due("none", x.law(-1), true);
        Check.due("by none", x.grown(0, 1), 52);
        Check.due("none now", x.count(4), -1);
        BuriedGoods none = new BuriedGoods();
        Check.due("none holds of a new one", none.law(-1), true);
        Check.due("no law 0 of a new one", none.law(0), false);
    }

    private static void lawAsLongAsTheTape() {
        StringBuilder sum = new StringBuilder("y:1");
        while (sum.length() < 239) {
            sum.append("+0");
        }
        sum.append("+3".repeat((240 - sum.length()) / 2)).append(sum.length() < 240 ? "5" : "");
        BuriedGoods x = Check.field("tp0v50");
        Check.due("240 bytes", Check.feed(x, sum.toString()), 240);
        Check.due("no fault", x.fault(1), -1);
        Check.due("a law", x.text(1), 0);
        x.law(0);
        Check.due("the last digit counts", x.grown(0, 1), 50 + (sum.charAt(239) == '5' ? 6 : 4));
        String many = "y:0=1?1;".repeat(29) + "y:7     ";
        Check.due("240 bytes of clauses", many.length(), 240);
        Check.due("a law", Check.law(x, many), 1);
        x.law(1);
        Check.due("the thirtieth clause", x.grown(0, 1), 57);
        Check.due("blanks all along", Check.law(x, "y:8" + " ".repeat(237)), 2);
        Check.fault("y:1" + " ".repeat(236) + "1", 1, 239);
        Check.fault("y:1" + " ".repeat(236) + ";", 1, 240);
    }
}
