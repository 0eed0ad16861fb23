import java.util.ArrayList;
import java.util.List;
import java.util.Random;

/** Long random runs by the side of the model: every answer of promises 6 to 41, and laws of every form. */
public final class ModelTest {
    private static final Random random = new Random(20261118);
    private static final String SIGNS = "vsdmnt";

    /** A piece of a law: how it is written and what it comes to. */
    interface Piece {
        long of(int[] letters);
    }

    private static StringBuilder text;
    private static int calls;

    public static void main(String[] args) {
        for (int run = 0; run < 2500; run++) {
            play(run);
        }
        Check.finish("ModelTest");
    }

    private static int below(int n) {
        return random.nextInt(n);
    }

    private static void sign(String s) {
        while (text.length() < 200 && below(12) == 0) {
            text.append(' ');
        }
        text.append(s);
    }

    private static long held(long n) {
        return n > 1000000 ? 1000000 : n < -1000000 ? -1000000 : n;
    }

    private static Piece atom(int depth) {
        int kind = below(5);
        if (kind == 0 && depth < 6) {
            sign("[");
            Piece inner = sum(depth + 1);
            sign("]");
            return inner;
        }
        if (kind < 3) {
            int which = below(6);
            sign(SIGNS.substring(which, which + 1));
            return l -> l[which];
        }
        int n = below(4) == 0 ? below(10000) : below(13);
        sign(below(9) == 0 ? String.format("%04d", n) : Integer.toString(n));
        return l -> n;
    }

    private static Piece term(int depth) {
        Piece all = atom(depth);
        while (below(3) == 0) {
            Piece left = all;
            boolean times = below(2) == 0;
            sign(times ? "*" : "/");
            Piece right = atom(depth);
            all = times ? l -> held(left.of(l) * right.of(l)) : l -> right.of(l) == 0 ? 0 : left.of(l) / right.of(l);
        }
        return all;
    }

    private static Piece sum(int depth) {
        Piece all = term(depth);
        while (below(3) == 0) {
            Piece left = all;
            boolean plus = below(2) == 0;
            sign(plus ? "+" : "-");
            Piece right = term(depth);
            all = l -> held(left.of(l) + (plus ? right.of(l) : -right.of(l)));
        }
        return all;
    }

    private static Piece unit(int depth) {
        int kind = below(6);
        if (kind == 0 && depth < 6) {
            sign("!");
            Piece inner = unit(depth + 1);
            return l -> 1 - inner.of(l);
        }
        if (kind == 1 && depth < 6) {
            sign("(");
            Piece inner = condition(depth + 1);
            sign(")");
            return inner;
        }
        Piece left = sum(depth);
        int which = below(3);
        sign("=<>".substring(which, which + 1));
        Piece right = sum(depth);
        return l -> {
            int c = Long.compare(left.of(l), right.of(l));
            return (which == 0 ? c == 0 : which == 1 ? c < 0 : c > 0) ? 1 : 0;
        };
    }

    private static Piece truth(int depth) {
        Piece all = unit(depth);
        while (below(4) == 0) {
            Piece left = all;
            sign("&");
            Piece right = unit(depth);
            all = l -> left.of(l) * right.of(l);
        }
        return all;
    }

    private static Piece condition(int depth) {
        Piece all = truth(depth);
        while (below(4) == 0) {
            Piece left = all;
            sign("|");
            Piece right = truth(depth);
            all = l -> left.of(l) + right.of(l) > 0 ? 1 : 0;
        }
        return all;
    }

    private static Piece clause() {
        sign("y");
        sign(":");
        if (below(3) == 0) {
            Piece only = sum(0);
            return l -> only.of(l);
        }
        Piece gate = condition(0);
        sign("?");
        Piece then = sum(0);
        return l -> gate.of(l) != 0 ? then.of(l) : Long.MIN_VALUE;
    }

    private static void tellLaw(BuriedGoods x, Model m) {
        List<Piece> clauses = new ArrayList<>();
        do {
            text = new StringBuilder();
            clauses.clear();
            clauses.add(clause());
            while (below(2) == 0) {
                sign(";");
                clauses.add(clause());
            }
        } while (text.length() > 240);
        Check.feed(x, text.toString());
        calls += 15;
        Check.due("law " + text, x.fault(1), -1);
        Check.due("law " + text, x.text(1), m.laws.size());
        m.laws.add(l -> {
            for (Piece piece : clauses) {
                long worth = piece.of(l);
                if (worth != Long.MIN_VALUE) {
                    return worth;
                }
            }
            return 0;
        });
    }

    private static int item(char letter, int least, int most, int without) {
        if (below(3) == 0) {
            return without;
        }
        int n = least + below(most - least + 1);
        sign(String.valueOf(letter));
        sign(below(5) == 0 && n < 10 ? "0" + n : "" + n);
        return n;
    }

    /** A field that stands: things choose other plots till they do. */
    private static void tellField(BuriedGoods x, Model m) {
        do {
            text = new StringBuilder();
            int[] rules = {4, 3, 12, 2, 30};
            int[] damps = {3, 3, 3, 3};
            List<Model.Thing> things = new ArrayList<>();
            int told = 0;
            boolean ruled = false;
            int clauses = 1 + below(13);
            for (int i = 0; i < clauses; i++) {
                int kind = below(7);
                String between = text.length() > 0 ? ";" : "";
                if (kind == 0 && !ruled) {
                    sign(between);
                    sign("s");
                    ruled = true;
                    int[] least = {1, 1, 1, 0, 0};
                    int[] most = {6, 4, below(2) == 0 ? 24 : 4, 9, 99};
                    for (int k = 0; k < 5; k++) {
                        rules[k] = item("whyfk".charAt(k), least[k], most[k], rules[k]);
                    }
                } else if (kind < 3 && told < 4) {
                    sign(between);
                    sign("r");
                    damps[told] = item('d', 0, 9, 3);
                    told++;
                } else if (things.size() < 8) {
                    sign(between);
                    sign("t");
                    int plot = item('p', 0, 23, -1);
                    int lain = item('m', 0, below(2) == 0 ? 99 : 12, 0);
                    int stuff = item('s', 0, 5, 0);
                    int value = item('v', 1, 99, 10);
                    things.add(new Model.Thing(value, stuff, plot, lain, plot >= 0));
                }
            }
            if (text.length() == 0 || text.length() > 240) {
                continue;
            }
            boolean stands = told <= rules[1];
            for (int i = 0; i < things.size(); i++) {
                int plot = things.get(i).plot;
                stands &= plot < rules[0] * rules[1];
                for (int j = 0; j < i && plot >= 0; j++) {
                    stands &= things.get(j).plot != plot;
                }
            }
            Check.fault(text.toString(), 0, stands ? -1 : text.length());
            if (stands) {
                x.end(0);
                Check.feed(x, text.toString());
                calls += 15;
                Check.due("field " + text, x.text(0), things.size());
                m.begin(rules, damps, things);
                return;
            }
        } while (true);
    }

    /** Mostly a number that fits, at times one beside the bounds. */
    private static int near(int least, int most) {
        int kind = below(14);
        return kind == 0 ? least - 1 : kind == 1 ? most + 1 : least + below(most - least + 1);
    }

    private static void play(int run) {
        BuriedGoods x = new BuriedGoods();
        Model m = new Model();
        calls = 0;
        // The last look takes 205 calls and no step more than 95: no object is asked more than 512 times.
        for (int i = 0; i < 200 && calls < 210; i++) {
            int kind = i == 3 ? 0 : i == 5 && run % 3 > 0 ? 1 : below(44);
            if (kind == 0 && (i == 3 || below(30) == 0)) {
                tellField(x, m);
            } else if (kind == 1 && m.laws.size() < 4) {
                tellLaw(x, m);
            } else if (kind == 1 || kind == 2) {
                int law = i < 9 ? m.laws.size() - 1 : near(-1, 3);
                boolean is = law >= -1 && law < m.laws.size();
                Check.due("law " + law, x.law(law), is);
                m.holds = is ? law : m.holds;
            } else if (kind < 24) {
                change("run " + run + ", step " + i, x, m, kind);
            } else {
                ask("run " + run + ", step " + i, x, m, kind);
            }
            calls++;
        }
        compareCounts("run " + run, x, m);
        compareThings("run " + run, x, m);
        comparePlots("run " + run, x, m);
        compareMost("run " + run, x, m);
        Check.due("calls", calls <= 512, true);
    }

    private static void change(String where, BuriedGoods x, Model m, int kind) {
        int at = near(0, 7);
        int plot = near(0, Math.max(0, m.wide * m.rows - 1));
        int n = below(3) == 0 ? near(1, 60) : near(1, 5);
        long seed = random.nextLong() >> below(64);
        switch (kind) {
            case 3: case 4: Check.due(where + " months " + n, x.months(n), m.months(n)); break;
            case 5: case 6: case 7: Check.due(where + " lay " + at + " " + plot, x.lay(at, plot), m.lay(at, plot)); break;
            case 8: case 9: Check.due(where + " takes " + at, x.takes(at), m.takes(at)); break;
            case 10: Check.due(where + " sell " + at, x.sell(at), m.sell(at)); break;
            case 11: case 12:
                int value = near(1, 30);
                int stuff = near(0, 5);
                Check.due(where + " buy", x.buy(value, stuff), m.buy(value, stuff));
                break;
            case 13: Check.due(where + " lose " + at, x.lose(at), m.lose(at)); break;
            case 14: case 15: Check.due(where + " search " + plot, x.search(plot), m.search(plot)); break;
            case 16: int coins = near(1, 50); Check.due(where + " give", x.give(coins), m.give(coins)); break;
            case 17: case 18: Check.due(where + " years " + n + " " + seed, x.years(n, seed), m.years(n, seed)); break;
            case 19: case 20: Check.due(where + " undo", x.undo(), m.undo()); break;
            case 21: Check.due(where + " image", x.image(), m.image()); break;
            case 22: Check.due(where + " back", x.back(), m.back()); break;
            default:
                int v = near(0, 9);
                boolean is = v >= 0 && v <= 9 && v != m.moles;
                Check.due(where + " moles", x.moles(v), is);
                m.moles = is ? v : m.moles;
                break;
        }
    }

    private static void ask(String where, BuriedGoods x, Model m, int kind) {
        int at = near(0, 7);
        int other = near(0, 7);
        int row = near(0, Math.max(0, m.rows - 1));
        int told = near(0, Math.max(0, m.told.size() - 1));
        int what = near(0, 1);
        int i = near(0, 9) - 1;
        switch (kind) {
            case 24: int far = near(0, 99); Check.due(where + " grown", x.grown(at, far), m.grown(at, far)); break;
            case 25: Check.due(where + " ripeIn", x.ripeIn(at), m.ripeIn(at)); break;
            case 26: Check.due(where + " best", x.best(at, what), m.best(at, what)); break;
            case 27: int n = near(1, 24); Check.due(where + " laying " + n, x.laying(n, what), m.laying(n, what)); break;
            case 28: Check.due(where + " way", x.way(), m.way()); break;
            case 29: Check.due(where + " full", x.full(), m.full()); break;
            case 30: case 31: case 32: {
                int behind = near(1, 24);
                int v = below(3) == 0 ? near(0, 200) : near(5, 40);
                boolean more = below(2) == 0;
                Check.due(where + " seen", x.seen(told, row, behind, v, more), m.seen(told, row, behind, v, more));
                break;
            }
            case 33: Check.due(where + " damps", x.damps(row, i), m.damps(row, i)); break;
            case 34: Check.due(where + " ask", x.ask(row, told), m.ask(row, told)); break;
            case 35: {
                int gx = near(0, 1);
                int gy = near(0, 1);
                Check.due(where + " game", x.game(at, other, gx, gy, what), m.game(at, other, gx, gy, what));
                break;
            }
            case 36: Check.due(where + " rests", x.rests(at, other, i), m.rests(at, other, i)); break;
            case 37: Check.due(where + " safe", x.safe(at, other, what), m.safe(at, other, what)); break;
            case 38: case 39: {
                int months = near(0, 6);
                int v = below(3) == 0 ? near(0, 200) : near(0, 30);
                int chance = near(0, 100);
                Check.due(where + " odds", x.odds(at, months, v, chance), m.odds(at, months, v, chance));
                break;
            }
            case 40: int c = near(0, 999); Check.due(where + " shares", x.shares(at, c), m.shares(at, c)); break;
            case 41: int k = near(0, 11); Check.due(where + " most " + k, x.most(k), m.most(k)); break;
            default: compareOne(where, x, m); break;
        }
    }

    private static void compareOne(String where, BuriedGoods x, Model m) {
        switch (below(6)) {
            case 0: comparePlots(where, x, m); break;
            case 1: case 2: compareThings(where, x, m); break;
            case 3: compareMost(where, x, m); break;
            default: compareCounts(where, x, m); break;
        }
    }

    private static void compareCounts(String where, BuriedGoods x, Model m) {
        calls += 26;
        for (int what = -1; what < 11; what++) {
            Check.due(where + " count " + what, x.count(what), m.count(what));
        }
        for (int what = -1; what < 6; what++) {
            int due = m.field && what >= 0 && what < 5 ? new int[] {m.wide, m.rows, m.year, m.frost, m.now.coins}[what] : -1;
            Check.due(where + " rule " + what, x.rule(what), due);
            Check.due(where + " status " + what, x.status(what), what >= 0 && what < 5 ? m.status[what] : -1);
        }
    }

    private static void compareThings(String where, BuriedGoods x, Model m) {
        calls += 60;
        for (int at = -1; at < 9; at++) {
            Model.Thing t = at >= 0 && at < 8 ? m.now.things[at] : null;
            for (int what = 0; what < 6; what++) {
                long due = t == null || what < 0 || what > 4 ? Check.THROWN
                    : new int[] {t.value, t.stuff, t.plot, t.lain, t.plot >= 0 && t.stake ? 1 : 0}[what];
                Check.due(where + " thing " + at + " " + what, Check.thing(x, at, what), due);
            }
        }
    }

    private static void comparePlots(String where, BuriedGoods x, Model m) {
        calls += 95;
        int[] plots = new int[26];
        java.util.Arrays.fill(plots, -1);
        for (int at = 0; at < 8; at++) {
            Model.Thing t = m.now.things[at];
            if (t != null && t.plot >= 0) {
                plots[t.plot + 1] = at;
            }
        }
        for (int plot = -1; plot < 25; plot++) {
            Check.due(where + " lies " + plot, x.lies(plot), plots[plot + 1]);
        }
        for (int row = -1; row < 5; row++) {
            Check.due(where + " damp " + row, x.damp(row), m.field && row >= 0 && row < m.rows ? m.damps[row] : -1);
        }
        for (int i = -1; i < 62; i++) {
            int what = below(5) - 1;
            Check.due(where + " log " + i + " " + what, x.log(i, what), m.log(i, what));
        }
    }

    private static void compareMost(String where, BuriedGoods x, Model m) {
        calls += 14;
        for (int what = -1; what < 13; what++) {
            Check.due(where + " most " + what, x.most(what), m.most(what));
        }
    }
}
