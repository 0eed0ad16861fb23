import java.util.ArrayDeque;
import java.util.ArrayList;
import java.util.Deque;
import java.util.List;

/** The document told a second time, as simply as can be: everything is copied, tried and counted out. */
final class Model {
    static final int NONE = -1;
    static final int HIDDEN = -1000000;

    /** What a law makes of v s d m n t. */
    interface Law {
        long worth(int[] letters);
    }

    static final class Thing {
        int value;
        int stuff;
        int plot;
        int lain;
        boolean stake;

        Thing(int value, int stuff, int plot, int lain, boolean stake) {
            this.value = value;
            this.stuff = stuff;
            this.plot = plot;
            this.lain = lain;
            this.stake = stake;
        }

        Thing twin() {
            return new Thing(value, stuff, plot, lain, stake);
        }
    }

    /** What an act can change. */
    static final class State {
        Thing[] things = new Thing[8];
        int coins;
        int month;
        List<int[]> log = new ArrayList<>();

        State twin() {
            State s = new State();
            for (int i = 0; i < 8; i++) {
                s.things[i] = things[i] == null ? null : things[i].twin();
            }
            s.coins = coins;
            s.month = month;
            s.log.addAll(log);
            return s;
        }
    }

    boolean field;
    int wide;
    int rows;
    int year;
    int frost;
    int[] damps = new int[4];
    List<Thing> told = new ArrayList<>();
    State now = new State();
    State image;
    Deque<State> past = new ArrayDeque<>();
    List<Law> laws = new ArrayList<>();
    int holds = NONE;
    int moles = 3;
    int[] status = new int[5];
    List<int[]> seen = new ArrayList<>();

    void begin(int[] rules, int[] rowDamps, List<Thing> things) {
        field = true;
        wide = rules[0];
        rows = rules[1];
        year = rules[2];
        frost = rules[3];
        damps = rowDamps.clone();
        told = things;
        now = new State();
        now.coins = rules[4];
        for (int i = 0; i < things.size(); i++) {
            now.things[i] = things.get(i).twin();
        }
        image = null;
        past.clear();
        seen.clear();
    }

    private Thing get(int at) {
        return at >= 0 && at < 8 ? now.things[at] : null;
    }

    private Thing lying(int at) {
        Thing t = get(at);
        return t != null && t.plot >= 0 ? t : null;
    }

    private int in(State s, int plot) {
        for (int i = 0; i < 8; i++) {
            if (s.things[i] != null && s.things[i].plot == plot && plot >= 0) {
                return i;
            }
        }
        return NONE;
    }

    private boolean ripe(Thing t) {
        return t.lain >= year;
    }

    private boolean beside(int a, int b) {
        int ra = a / wide;
        int rb = b / wide;
        return ra == rb && Math.abs(a - b) == 1 || a % wide == b % wide && Math.abs(ra - rb) == 1;
    }

    private int after(Thing t, int damp, int n, int month) {
        int worth;
        if (holds != NONE) {
            worth = (int) laws.get(holds).worth(new int[] {t.value, t.stuff, damp, t.lain, n, month % 12});
        } else if (ripe(t)) {
            worth = 0 - t.lain / year;
        } else {
            worth = 1 + (damp > t.stuff ? 1 : 0);
        }
        worth = worth > 9 ? 9 : worth < -9 ? -9 : worth;
        int value = t.value + worth;
        return value > 200 ? 200 : value < 0 ? 0 : value;
    }

    /** A month of a whole state, whatever its number. */
    private void pass(State s) {
        int[] values = new int[8];
        for (int i = 0; i < 8; i++) {
            Thing t = s.things[i];
            if (t != null && t.plot >= 0) {
                int n = 0;
                for (Thing o : s.things) {
                    n += o != null && o.plot >= 0 && beside(t.plot, o.plot) ? 1 : 0;
                }
                values[i] = after(t, damps[t.plot / wide], n, s.month);
            }
        }
        int[] entry = new int[3];
        for (int i = 0; i < 8; i++) {
            Thing t = s.things[i];
            if (t != null && t.plot >= 0) {
                boolean raw = !ripe(t);
                t.value = values[i];
                t.lain = Math.min(99, t.lain + (s.month % 12 < frost ? 2 : 1));
                entry[0] += t.value;
                entry[1]++;
                entry[2] |= raw && ripe(t) ? 1 << i : 0;
            }
        }
        s.log.add(0, entry);
        if (s.log.size() > 60) {
            s.log.remove(60);
        }
        s.month++;
    }

    private void act() {
        past.push(now.twin());
        if (past.size() > 40) {
            past.removeLast();
        }
    }

    private int refuse(int why) {
        status[why]++;
        return NONE;
    }

    int months(int n) {
        if (!field) {
            return refuse(0);
        }
        if (n < 1 || n > 60) {
            return refuse(1);
        }
        if (now.month + n > 999) {
            return refuse(4);
        }
        for (int i = 0; i < n; i++) {
            act();
            pass(now);
        }
        return now.month;
    }

    int lay(int at, int plot) {
        Thing t = get(at);
        if (t == null) {
            return refuse(0);
        }
        if (plot < 0 || plot >= wide * rows) {
            return refuse(1);
        }
        if (t.plot >= 0 || in(now, plot) != NONE) {
            return refuse(2);
        }
        if (now.coins == 0) {
            return refuse(3);
        }
        act();
        t.plot = plot;
        t.stake = true;
        return --now.coins;
    }

    int takes(int at) {
        Thing t = get(at);
        if (t == null) {
            return refuse(0);
        }
        if (t.plot < 0) {
            return refuse(2);
        }
        if (!t.stake) {
            return refuse(3);
        }
        act();
        int plot = t.plot;
        t.plot = NONE;
        t.stake = false;
        return plot;
    }

    int sell(int at) {
        Thing t = get(at);
        if (t == null) {
            return refuse(0);
        }
        if (t.plot >= 0) {
            return refuse(2);
        }
        if (!ripe(t)) {
            return refuse(3);
        }
        act();
        now.coins = Math.min(999, now.coins + t.value);
        now.things[at] = null;
        return t.value;
    }

    int buy(int value, int stuff) {
        if (!field) {
            return refuse(0);
        }
        if (value < 1 || value > 30 || stuff < 0 || stuff > 5) {
            return refuse(1);
        }
        int price = value / 2 + value % 2;
        for (int at = 0; at < 8 && price <= now.coins; at++) {
            if (now.things[at] == null) {
                act();
                now.coins -= price;
                now.things[at] = new Thing(value, stuff, NONE, 0, false);
                return at;
            }
        }
        return refuse(3);
    }

    int lose(int at) {
        Thing t = get(at);
        if (t == null) {
            return refuse(0);
        }
        if (t.plot < 0) {
            return refuse(2);
        }
        if (!t.stake) {
            return refuse(3);
        }
        act();
        t.stake = false;
        return t.plot;
    }

    int search(int plot) {
        int why = !field ? 0 : plot < 0 || plot >= wide * rows ? 1 : now.coins == 0 ? 3 : NONE;
        if (why != NONE) {
            refuse(why);
            return HIDDEN;
        }
        act();
        now.coins--;
        int at = in(now, plot);
        if (at == NONE || now.things[at].stake) {
            return NONE;
        }
        now.things[at].stake = true;
        return at;
    }

    int give(int n) {
        if (!field) {
            return refuse(0);
        }
        if (n < 1 || n > 50) {
            return refuse(1);
        }
        if (now.coins + n > 999) {
            return refuse(3);
        }
        act();
        now.coins += n;
        return now.coins;
    }

    private long x;

    private int draw(int j) {
        x = x * 6364136223846793005L + 1442695040888963407L;
        return (int) Long.remainderUnsigned(x >>> 33, j);
    }

    int years(int n, long seed) {
        if (!field || n < 1 || n > 60 || now.month + n > 999) {
            return NONE;
        }
        x = seed;
        for (int i = 0; i < n; i++) {
            act();
            if (draw(10) < moles) {
                int at = in(now, draw(wide * rows));
                if (at != NONE) {
                    now.things[at].value = now.things[at].value / 2;
                }
            }
            if (draw(10) < 2) {
                Thing t = lying(draw(8));
                if (t != null) {
                    t.stake = false;
                }
            }
            pass(now);
        }
        return now.month;
    }

    int undo() {
        if (past.isEmpty()) {
            return NONE;
        }
        now = past.pop();
        return past.size();
    }

    int log(int i, int what) {
        return i < 0 || i >= now.log.size() || what < 0 || what > 2 ? NONE : now.log.get(i)[what];
    }

    int grown(int at, int n) {
        if (get(at) == null || n < 0 || n > 99) {
            return NONE;
        }
        State s = now.twin();
        for (int i = 0; i < n; i++) {
            pass(s);
        }
        return s.things[at].value;
    }

    int ripeIn(int at) {
        State s = now.twin();
        for (int n = 0; n <= 99 && lying(at) != null; n++) {
            if (ripe(s.things[at])) {
                return n;
            }
            pass(s);
        }
        return NONE;
    }

    int best(int at, int what) {
        if (lying(at) == null || what < 0 || what > 1) {
            return NONE;
        }
        int when = NONE;
        int most = NONE;
        State s = now.twin();
        for (int n = 0; n <= 60; n++) {
            if (ripe(s.things[at]) && s.things[at].value > most) {
                when = n;
                most = s.things[at].value;
            }
            pass(s);
        }
        return what == 0 ? when : most;
    }

    private int alone(Thing t, int damp, int month, int n) {
        Thing twin = t.twin();
        for (int i = 0; i < n; i++) {
            twin.value = after(twin, damp, 0, month + i);
            twin.lain = Math.min(99, twin.lain + ((month + i) % 12 < frost ? 2 : 1));
        }
        return twin.value;
    }

    private long bestSum;
    private String bestRow;

    int laying(int n, int what) {
        if (!field || n < 1 || n > 24 || what < 0 || what > 1) {
            return NONE;
        }
        int[] room = new int[rows];
        for (int row = 0; row < rows; row++) {
            room[row] = wide;
        }
        int[][] gains = new int[8][4];
        for (int at = 0; at < 8; at++) {
            if (lying(at) != null) {
                room[lying(at).plot / wide]--;
            } else if (get(at) != null) {
                for (int row = 0; row < rows; row++) {
                    gains[at][row] = alone(get(at), damps[row], now.month, n);
                }
            }
        }
        bestSum = -1;
        bestRow = "";
        tryAll(0, 0, "", room, gains);
        return what == 0 ? (int) bestSum : Integer.parseInt(bestRow);
    }

    private void tryAll(int at, long sum, String digits, int[] room, int[][] gains) {
        if (at == 8) {
            if (sum > bestSum || sum == bestSum && digits.compareTo(bestRow) < 0) {
                bestSum = sum;
                bestRow = digits;
            }
            return;
        }
        Thing t = get(at);
        boolean free = t != null && t.plot < 0;
        tryAll(at + 1, sum + (free ? t.value : 0), digits + "9", room, gains);
        for (int row = 0; row < rows && free; row++) {
            if (room[row] > 0) {
                room[row]--;
                tryAll(at + 1, sum + gains[at][row], digits + row, room, gains);
                room[row]++;
            }
        }
    }

    int way() {
        if (!field) {
            return NONE;
        }
        List<Integer> stops = new ArrayList<>();
        for (Thing t : now.things) {
            if (t != null && t.plot >= 0 && t.stake && ripe(t)) {
                stops.add(t.plot);
            }
        }
        return round(0, stops);
    }

    private int round(int from, List<Integer> left) {
        if (left.isEmpty()) {
            return far(from, 0);
        }
        int best = Integer.MAX_VALUE;
        for (int i = 0; i < left.size(); i++) {
            List<Integer> rest = new ArrayList<>(left);
            int to = rest.remove(i);
            best = Math.min(best, far(from, to) + round(to, rest));
        }
        return best;
    }

    private int far(int a, int b) {
        return Math.abs(a / wide - b / wide) + Math.abs(a % wide - b % wide);
    }

    int full() {
        State s = now.twin();
        for (int n = 0; n <= 99; n++) {
            boolean any = false;
            boolean all = true;
            for (Thing t : s.things) {
                any |= t != null && t.plot >= 0;
                all &= t == null || t.plot < 0 || ripe(t);
            }
            if (!any) {
                return NONE;
            }
            if (all) {
                return n;
            }
            pass(s);
        }
        return NONE;
    }

    private boolean noRow(int row) {
        return !field || row < 0 || row >= rows;
    }

    private boolean noTold(int number) {
        return !field || number < 0 || number >= told.size();
    }

    int seen(int number, int row, int n, int v, boolean more) {
        if (noTold(number) || noRow(row) || n < 1 || n > 24 || v < 0 || v > 200 || seen.size() == 10) {
            return NONE;
        }
        seen.add(new int[] {number, row, n, v, more ? 1 : 0});
        return seen.size();
    }

    private List<Integer> fitting(int row) {
        List<Integer> fits = new ArrayList<>();
        for (int d = 0; d < 10; d++) {
            boolean fit = true;
            for (int[] s : seen) {
                if (s[1] == row) {
                    int value = alone(told.get(s[0]), d, 0, s[2]);
                    fit &= s[4] == 1 ? value >= s[3] : value < s[3];
                }
            }
            if (fit) {
                fits.add(d);
            }
        }
        return fits;
    }

    int damps(int row, int i) {
        if (noRow(row)) {
            return NONE;
        }
        List<Integer> fits = fitting(row);
        return i == NONE ? fits.size() : i < 0 || i >= fits.size() ? NONE : fits.get(i);
    }

    int ask(int row, int number) {
        if (noRow(row) || noTold(number) || fitting(row).isEmpty()) {
            return NONE;
        }
        int when = NONE;
        int fewest = 11;
        for (int n = 1; n <= 24; n++) {
            int[] by = new int[201];
            int most = 0;
            for (int d : fitting(row)) {
                most = Math.max(most, ++by[alone(told.get(number), d, 0, n)]);
            }
            if (most < fewest) {
                fewest = most;
                when = n;
            }
        }
        return when;
    }

    private boolean noGame(int one, int other) {
        return one == other || lying(one) == null || lying(other) == null;
    }

    int game(int one, int other, int x, int y, int what) {
        if (noGame(one, other) || x < 0 || x > 1 || y < 0 || y > 1 || what < 0 || what > 1) {
            return HIDDEN;
        }
        int dug = get(y == 0 ? one : other).value;
        int merchant = x == y ? 5 : -dug;
        int thief = x == y ? -5 : dug;
        return what == 0 ? merchant - (x == 1 ? 1 : 0) : thief;
    }

    int rests(int one, int other, int i) {
        if (noGame(one, other)) {
            return NONE;
        }
        List<Integer> rests = new ArrayList<>();
        for (int x = 0; x < 2; x++) {
            for (int y = 0; y < 2; y++) {
                if (game(one, other, x, y, 0) >= game(one, other, 1 - x, y, 0)
                        && game(one, other, x, y, 1) >= game(one, other, x, 1 - y, 1)) {
                    rests.add(10 * x + y);
                }
            }
        }
        return i == NONE ? rests.size() : i < 0 || i >= rests.size() ? NONE : rests.get(i);
    }

    int safe(int one, int other, int what) {
        if (noGame(one, other) || what < 0 || what > 1) {
            return HIDDEN;
        }
        int best = 0;
        int least = Integer.MAX_VALUE;
        for (int g = 100; g >= 0; g--) {
            int first = -5 * g + get(one).value * (100 - g);
            int second = get(other).value * g - 5 * (100 - g);
            if (Math.max(first, second) <= least) {
                least = Math.max(first, second);
                best = g;
            }
        }
        return what == 0 ? best : least;
    }

    int odds(int at, int n, int v, int chance) {
        if (lying(at) == null || n < 0 || n > 6 || v < 0 || v > 200 || chance < 0 || chance > 100) {
            return NONE;
        }
        return (int) parts(now.twin(), at, n, v, chance, 1000000000L);
    }

    private long parts(State s, int at, int n, int v, int chance, long parts) {
        if (n == 0) {
            return s.things[at].value >= v ? parts : 0;
        }
        long mole = parts * chance / 100;
        State with = s.twin();
        with.things[at].value /= 2;
        pass(with);
        State without = s.twin();
        pass(without);
        return parts(with, at, n - 1, v, chance, mole) + parts(without, at, n - 1, v, chance, parts - mole);
    }

    int shares(int at, int c) {
        if (get(at) == null || c < 0 || c > 999) {
            return NONE;
        }
        int all = most(9);
        return all == 0 ? 0 : c * get(at).value / all;
    }

    int most(int what) {
        if (!field || what < 0 || what > 11) {
            return NONE;
        }
        int[] answers = new int[12];
        int dearest = NONE;
        int oldest = NONE;
        int[] rich = new int[rows];
        int free = wide * rows;
        int lawful = now.coins;
        int pairs = 0;
        for (int i = 7; i >= 0; i--) {
            Thing t = now.things[i];
            if (t == null) {
                continue;
            }
            dearest = dearest == NONE || t.value >= get(dearest).value ? i : dearest;
            oldest = oldest == NONE || t.lain >= get(oldest).lain ? i : oldest;
            answers[4] |= 1 << i;
            answers[6] |= ripe(t) ? 1 << i : 0;
            answers[9] += t.value;
            lawful += ripe(t) && t.plot < 0 ? t.value : 0;
            if (t.plot >= 0) {
                rich[t.plot / wide] += t.value;
                answers[5] |= 1 << i;
                answers[7] |= t.stake ? 0 : 1 << i;
                free--;
                for (int j = 0; j < i; j++) {
                    pairs += lying(j) != null && beside(t.plot, lying(j).plot) ? 1 : 0;
                }
            }
        }
        answers[0] = dearest;
        answers[1] = oldest;
        for (int row = rows - 1; row >= 0; row--) {
            answers[2] = rich[row] >= rich[Math.min(answers[2], rows - 1)] || row == rows - 1 ? row : answers[2];
            answers[3] = damps[row] >= damps[answers[3]] || row == rows - 1 ? row : answers[3];
        }
        answers[8] = free;
        answers[10] = Math.min(999, lawful);
        answers[11] = pairs;
        return answers[what];
    }

    int image() {
        if (!field) {
            return NONE;
        }
        image = now.twin();
        return now.month;
    }

    int back() {
        if (image == null) {
            return NONE;
        }
        now = image.twin();
        past.clear();
        return now.month;
    }

    int count(int what) {
        int things = 0;
        for (Thing t : now.things) {
            things += t != null ? 1 : 0;
        }
        int[] answers = {told.size(), things, laws.size(), 0, holds, now.month, moles, seen.size(), now.log.size(), past.size()};
        return what >= 0 && what < 10 ? answers[what] : HIDDEN;
    }
}
