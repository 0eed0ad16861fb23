import java.util.NoSuchElementException;

/**
 * What the tests share: comparing answers, feeding texts, and a fingerprint of all that can be asked.
 * No object is asked more than 512 times, as nothing is promised behind that.
 */
final class Check {
    private static int wrong = 0;
    private static int done = 0;

    private Check() {
    }

    static void due(String what, long got, long want) {
        done++;
        if (got != want) {
            wrong++;
            System.out.println(what + ": answered " + got + ", due is " + want);
        }
    }

    static void due(String what, boolean got, boolean want) {
        due(what, got ? 1 : 0, want ? 1 : 0);
    }

    static void finish(String name) {
        System.out.println(name + ": " + done + " answers, " + wrong + " wrong");
        if (wrong != 0 || done == 0) {
            System.exit(1);
        }
    }

    /** Feeds all bytes of a text; what the last feed answered. */
    static int feed(BuriedGoods x, String text) {
        int answer = x.count(3);
        for (int from = 0; from < text.length(); from += 20) {
            int[] words = new int[5];
            for (int i = 0; i < 20; i++) {
                int piece = from + i < text.length() ? text.charAt(from + i) & 255 : 0;
                words[i / 4] = words[i / 4] << 8 | piece;
            }
            answer = x.feed(words[0], words[1], words[2], words[3], words[4]);
        }
        return answer;
    }

    static int fault(String text, int sort) {
        BuriedGoods x = new BuriedGoods();
        feed(x, text);
        return x.fault(sort);
    }

    static void fault(String text, int sort, int want) {
        due((sort == 0 ? "field '" : "law '") + text + "'", fault(text, sort), want);
    }

    static BuriedGoods field(String text) {
        BuriedGoods x = new BuriedGoods();
        feed(x, text);
        if (x.text(0) == -1) {
            due("the field '" + text + "' is told", 0, 1);
        }
        return x;
    }

    static int law(BuriedGoods x, String text) {
        x.end(0);
        feed(x, text);
        return x.text(1);
    }

    /** A field under one law, which holds. */
    static BuriedGoods field(String text, String law) {
        BuriedGoods x = field(text);
        due("the law '" + law + "' is told", law(x, law), 0);
        due("the law holds", x.law(0), true);
        return x;
    }

    static final long THROWN = Long.MIN_VALUE;

    static long thing(BuriedGoods x, int at, int what) {
        try {
            return x.thing(at, what);
        } catch (NoSuchElementException e) {
            return THROWN;
        }
    }

    static void status(BuriedGoods x, int... want) {
        for (int i = 0; i < 5; i++) {
            due("status(" + i + ")", x.status(i), want[i]);
        }
    }

    /** All that can be seen of an object but STATUS, in calls that change nothing: 66 at most and three for each month logged. */
    static String seen(BuriedGoods x) {
        StringBuilder all = new StringBuilder();
        for (int what = 0; what < 10; what++) {
            all.append(x.count(what)).append(' ');
        }
        for (int what = 0; what < 5; what++) {
            all.append(x.rule(what)).append(' ');
        }
        for (int row = 0; row < 4; row++) {
            all.append(x.damp(row)).append(' ').append(x.damps(row, -1)).append(' ');
        }
        for (int at = 0; at < 8; at++) {
            long value = thing(x, at, 0);
            all.append(value).append(' ');
            for (int what = 1; what < 5 && value != THROWN; what++) {
                all.append(thing(x, at, what)).append(' ');
            }
        }
        int logged = x.count(8);
        for (int i = 0; i < logged; i++) {
            for (int what = 0; what < 3; what++) {
                all.append(x.log(i, what)).append(' ');
            }
        }
        all.append(x.fault(0)).append(' ').append(x.fault(1));
        return all.toString();
    }

    /** What no call shows at once: the tape's text, the laws, the acts that can be undone, the image. It changes much. */
    static String onward(BuriedGoods x) {
        StringBuilder all = new StringBuilder();
        for (int law = -1; law < 4; law++) {
            all.append(x.law(law)).append(' ').append(x.damps(0, 0)).append(' ').append(x.grown(0, 2)).append(' ');
        }
        for (int i = 0; i < 5; i++) {
            all.append(x.undo()).append(' ').append(standing(x));
        }
        all.append(x.years(1, 3L)).append(' ').append(standing(x));
        all.append(x.back()).append(' ').append(standing(x));
        all.append(x.text(1)).append(' ').append(x.text(0)).append(' ').append(standing(x));
        return all.toString();
    }

    /** How it stands, in short: eight calls. */
    static String standing(BuriedGoods x) {
        StringBuilder all = new StringBuilder();
        int[] asked = {x.rule(4), x.count(1), x.count(5), x.count(8), x.most(5), x.most(7), x.most(9), x.log(0, 0)};
        for (int answer : asked) {
            all.append(answer).append(' ');
        }
        return all.toString();
    }

    static void same(String what, String got, String want) {
        due(what, got.equals(want), true);
    }
}
