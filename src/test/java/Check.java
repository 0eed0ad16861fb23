import java.util.NoSuchElementException;

/**
 * What the tests share: comparing answers, feeding texts, and a fingerprint of all that can be asked.
 * Fingerprints take some runs beyond 512 calls, of which nothing is promised: this class counts no calls.
 */
final class Check {
    private static int wrong = 0;
    private static int done = 0;

    private Check() {
    }

    static void due(String what, long got, long want) {
        done++;
        if (got != want) {
            wrong++;
            System.out.println(what + ": answered " + got + ", due is " + want);
        }
    }

    static void due(String what, boolean got, boolean want) {
        due(what, got ? 1 : 0, want ? 1 : 0);
    }

    static void finish(String name) {
        System.out.println(name + ": " + done + " answers, " + wrong + " wrong");
        if (wrong != 0 || done == 0) {
            System.exit(1);
        }
    }

    /** Feeds all bytes of a text; what the last feed answered. */
    static int feed(BuriedGoods x, String text) {
        int answer = x.count(3);
        for (int from = 0; from < text.length(); from += 20) {
            int[] words = new int[5];
            for (int i = 0; i < 20; i++) {
                int piece = from + i < text.length() ? text.charAt(from + i) & 255 : 0;
                words[i / 4] = words[i / 4] << 8 | piece;
            }
            answer = x.feed(words[0], words[1], words[2], words[3], words[4]);
        }
        return answer;
    }

    static int fault(String text, int sort) {
        BuriedGoods x = new BuriedGoods();
        feed(x, text);
        return x.fault(sort);
    }

    static void fault(String text, int sort, int want) {
        due((sort == 0 ? "field '" : "law '") + text + "'", fault(text, sort), want);
    }

    static BuriedGoods field(String text) {
        BuriedGoods x = new BuriedGoods();
        feed(x, text);
        if (x.text(0) == -1) {
            due("the field '" + text + "' is told", 0, 1);
        }
        return x;
    }

    static int law(BuriedGoods x, String text) {
        x.end(0);
        feed(x, text);
        return x.text(1);
    }

    /** A field under one law, which holds. */
    static BuriedGoods field(String text, String law) {
        BuriedGoods x = field(text);
        due("the law '" + law + "' is told", law(x, law), 0);
        due("the law holds", x.law(0), true);
        return x;
    }

    static final long THROWN = Long.MIN_VALUE;

    static long thing(BuriedGoods x, int at, int what) {
        try {
            return x.thing(at, what);
        } catch (NoSuchElementException e) {
            return THROWN;
        }
    }

    static void status(BuriedGoods x, int... want) {
        for (int i = 0; i < 5; i++) {
            due("status(" + i + ")", x.status(i), want[i]);
        }
    }

    /** All that can be seen of an object but STATUS, in about 250 calls that change nothing. */
    static String seen(BuriedGoods x) {
        StringBuilder all = new StringBuilder();
        for (int what = 0; what < 10; what++) {
            all.append(x.count(what)).append(' ');
        }
        for (int what = 0; what < 5; what++) {
            all.append(x.rule(what)).append(' ');
        }
        for (int row = 0; row < 4; row++) {
            all.append(x.damp(row)).append(' ').append(x.damps(row, -1)).append(' ');
        }
        for (int at = 0; at < 8; at++) {
            for (int what = 0; what < 5; what++) {
                all.append(thing(x, at, what)).append(' ');
            }
        }
        for (int i = 0; i < 60; i++) {
            for (int what = 0; what < 3; what++) {
                all.append(x.log(i, what)).append(' ');
            }
        }
        all.append(x.fault(0)).append(' ').append(x.fault(1));
        return all.toString();
    }

    static void same(String what, String got, String want) {
        due(what, got.equals(want), true);
    }
}
