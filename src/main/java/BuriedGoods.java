import java.util.NoSuchElementException;

/**
 * A country in which a thing has to have lain its year in the ground before it may be sold.
 * What each call does is said by the document, promise by promise; the headings below name them.
 */
public final class BuriedGoods {
    public static final int NONE = -1;
    public static final int HIDDEN = -1000000;

    private static final int MOST_BYTES = 240;
    private static final int PLACES = 8;
    private static final int MOST_ROWS = 4;
    private static final int MOST_WIDE = 6;
    private static final int MOST_LAWS = 4;
    private static final int MOST_SEEN = 10;
    private static final int MOST_ACTS = 40;
    private static final int MOST_LOGGED = 60;
    private static final int MOST_AT_ONCE = 60;
    private static final int MOST_COINS = 999;
    private static final int MOST_GIVEN = 50;
    private static final int MOST_VALUE = 200;
    private static final int MOST_GAIN = 9;
    private static final int MOST_LAIN = 99;
    private static final int MOST_BOUGHT = 30;
    private static final int MOST_STUFF = 5;
    private static final int MOST_MOLES = 9;
    private static final int DAMP_KINDS = 10;
    private static final int LAST_MONTH = 999;
    private static final int MONTHS_A_ROUND = 12;
    private static final int FAR = 99;
    private static final int BEST_FAR = 60;
    private static final int PLAN_FAR = 24;
    private static final int ODDS_FAR = 6;
    private static final int GUARD_PRIZE = 5;
    private static final long ALL_PARTS = 1000000000L;
    // More than any way or game comes to.
    private static final int BEYOND = 1000000;

    // What a refused act is counted under.
    private static final int NO_SUCH = 0;
    private static final int OUT_OF_BOUNDS = 1;
    private static final int IN_THE_WAY = 2;
    private static final int LACKING = 3;
    private static final int TOO_LATE = 4;
    private static final int STATUS_KINDS = 5;

    private final Tape tape = new Tape();
    private final Land draftLand = new Land();
    private final Land land = new Land();
    private final Law draftLaw = new Law();
    private final Law[] laws = new Law[MOST_LAWS];
    private final Stand now = new Stand();
    private final Stand kept = new Stand();
    private final Past past = new Past();
    private final Sights sights = new Sights();
    private final Growth growth = new Growth();
    private final Plan plan = new Plan();
    private final Spade spade = new Spade();
    private final int[] refused = new int[STATUS_KINDS];
    private final int[] sprouts = new int[DAMP_KINDS];
    private boolean known = false;
    private boolean imaged = false;
    private int lawCount = 0;
    private int holding = NONE;
    private int moleCount = 3;
    private long drawn = 0;

    // ---- Promise 1: A new object

    public BuriedGoods() {
        for (int i = 0; i < laws.length; i++) {
            laws[i] = new Law();
        }
    }

    // ---- Promises 2 to 5: the tape and its texts

    public int feed(int a, int b, int c, int d, int e) {
        int more = Tape.bytesIn(a) + Tape.bytesIn(b) + Tape.bytesIn(c) + Tape.bytesIn(d) + Tape.bytesIn(e);
        if (tape.size() + more > MOST_BYTES) {
            return NONE;
        }
        tape.append(a);
        tape.append(b);
        tape.append(c);
        tape.append(d);
        tape.append(e);
        return tape.size();
    }

    public boolean end(int n) {
        if (n < 0 || n > tape.size()) {
            return false;
        }
        tape.cut(n);
        return true;
    }

    public int fault(int sort) {
        if (sort == 0) {
            return draftLand.read(tape);
        }
        return sort == 1 ? draftLaw.read(tape) : -2;
    }

    public int text(int sort) {
        if (sort == 0 && draftLand.read(tape) == NONE) {
            tape.cut(0);
            beginField();
            return land.toldThings;
        }
        if (sort == 1 && lawCount < MOST_LAWS && draftLaw.read(tape) == NONE) {
            tape.cut(0);
            return keepLaw();
        }
        return NONE;
    }

    private void beginField() {
        land.copy(draftLand);
        now.begin(land);
        past.forget();
        sights.forget();
        known = true;
        imaged = false;
    }

    private int keepLaw() {
        Law free = lawAt(lawCount);
        if (free == null) {
            return NONE;
        }
        free.copy(draftLaw);
        lawCount++;
        return lawCount - 1;
    }

    private Law lawAt(int i) {
        return i >= 0 && i < laws.length ? laws[i] : null;
    }

    // ---- Promises 6 to 9: what is told and what lies where

    public int rule(int what) {
        if (!known) {
            return NONE;
        }
        switch (what) {
            case 0: return land.wide;
            case 1: return land.rows;
            case 2: return land.year;
            case 3: return land.frost;
            case 4: return now.coins;
            default: return NONE;
        }
    }

    public int damp(int row) {
        return isRow(row) ? pick(land.damps, row) : NONE;
    }

    public int thing(int at, int what) throws NoSuchElementException {
        Thing thing = now.find(at);
        if (thing == null || what < 0 || what > 4) {
            throw new NoSuchElementException();
        }
        switch (what) {
            case 0: return thing.value;
            case 1: return thing.stuff;
            case 2: return thing.plot;
            case 3: return thing.lain;
            default: return thing.plot != NONE && thing.staked ? 1 : 0;
        }
    }

    public int lies(int plot) {
        return isPlot(plot) ? now.placeOfPlot(plot) : NONE;
    }

    private boolean isRow(int row) {
        return known && row >= 0 && row < land.rows;
    }

    private boolean isPlot(int plot) {
        return known && plot >= 0 && plot < land.plots();
    }

    private boolean isRipe(Thing thing) {
        return thing.lain >= land.year;
    }

    // ---- Promises 10 and 11: the law that holds, moles

    public boolean law(int law) {
        if (law < NONE || law >= lawCount) {
            return false;
        }
        holding = law;
        return true;
    }

    public boolean moles(int v) {
        if (v < 0 || v > MOST_MOLES || v == moleCount) {
            return false;
        }
        moleCount = v;
        return true;
    }

    // ---- Promises 12 to 19: acts by hand

    public int months(int n) {
        if (!known) {
            return refuse(NO_SUCH);
        }
        if (n < 1 || n > MOST_AT_ONCE) {
            return refuse(OUT_OF_BOUNDS);
        }
        if (now.month + n > LAST_MONTH) {
            return refuse(TOO_LATE);
        }
        for (int i = 0; i < n; i++) {
            past.keep(now);
            passMonth();
        }
        return now.month;
    }

    public int lay(int at, int plot) {
        Thing thing = now.find(at);
        if (thing == null) {
            return refuse(NO_SUCH);
        }
        if (!isPlot(plot)) {
            return refuse(OUT_OF_BOUNDS);
        }
        if (thing.plot != NONE || now.placeOfPlot(plot) != NONE) {
            return refuse(IN_THE_WAY);
        }
        if (now.coins < 1) {
            return refuse(LACKING);
        }
        past.keep(now);
        now.coins--;
        thing.plot = plot;
        thing.staked = true;
        return now.coins;
    }

    public int takes(int at) {
        Thing thing = now.find(at);
        int why = whyNotAtStake(thing);
        if (thing == null || why != NONE) {
            return refuse(why);
        }
        past.keep(now);
        int plot = thing.plot;
        thing.plot = NONE;
        thing.staked = false;
        return plot;
    }

    public int sell(int at) {
        Thing thing = now.find(at);
        if (thing == null) {
            return refuse(NO_SUCH);
        }
        if (thing.plot != NONE) {
            return refuse(IN_THE_WAY);
        }
        if (!isRipe(thing)) {
            return refuse(LACKING);
        }
        past.keep(now);
        int value = thing.value;
        now.coins = Math.min(MOST_COINS, now.coins + value);
        thing.clear();
        return value;
    }

    public int buy(int value, int stuff) {
        if (!known) {
            return refuse(NO_SUCH);
        }
        if (value < 1 || value > MOST_BOUGHT || stuff < 0 || stuff > MOST_STUFF) {
            return refuse(OUT_OF_BOUNDS);
        }
        int price = (value + 1) / 2;
        int at = now.freePlace();
        Thing thing = now.slot(at);
        if (price > now.coins || thing == null) {
            return refuse(LACKING);
        }
        past.keep(now);
        now.coins -= price;
        thing.clear();
        thing.there = true;
        thing.value = value;
        thing.stuff = stuff;
        return at;
    }

    public int lose(int at) {
        Thing thing = now.find(at);
        int why = whyNotAtStake(thing);
        if (thing == null || why != NONE) {
            return refuse(why);
        }
        past.keep(now);
        thing.staked = false;
        return thing.plot;
    }

    public int search(int plot) {
        if (!known || !isPlot(plot) || now.coins < 1) {
            refuse(!known ? NO_SUCH : !isPlot(plot) ? OUT_OF_BOUNDS : LACKING);
            return HIDDEN;
        }
        past.keep(now);
        now.coins--;
        int at = now.placeOfPlot(plot);
        Thing thing = now.find(at);
        if (thing == null || thing.staked) {
            return NONE;
        }
        thing.staked = true;
        return at;
    }

    public int give(int n) {
        if (!known) {
            return refuse(NO_SUCH);
        }
        if (n < 1 || n > MOST_GIVEN) {
            return refuse(OUT_OF_BOUNDS);
        }
        if (now.coins + n > MOST_COINS) {
            return refuse(LACKING);
        }
        past.keep(now);
        now.coins += n;
        return now.coins;
    }

    private int refuse(int why) {
        place(refused, why, pick(refused, why) + 1);
        return NONE;
    }

    /** Why a thing can't be taken up nor lose its stake; NONE if it can. */
    private static int whyNotAtStake(Thing thing) {
        if (thing == null) {
            return NO_SUCH;
        }
        if (thing.plot == NONE) {
            return IN_THE_WAY;
        }
        return thing.staked ? NONE : LACKING;
    }

    private void passMonth() {
        int value = 0;
        int lying = 0;
        int ripened = 0;
        for (int at = 0; at < PLACES; at++) {
            Thing thing = now.findLying(at);
            if (thing != null) {
                boolean raw = !isRipe(thing);
                startFrom(thing);
                grow(1);
                thing.value = growth.value;
                thing.lain = growth.lain;
                value += thing.value;
                lying++;
                ripened |= raw && isRipe(thing) ? 1 << at : 0;
            }
        }
        now.write(value, lying, ripened);
        now.month++;
    }

    // ---- How a thing grows, by hand or apart

    /** Sets the growth to a thing that lies, as it lies now. */
    private void startFrom(Thing thing) {
        growth.begin(thing, pick(land.damps, land.rowOf(thing.plot)), now.month);
        growth.beside = countBeside(thing.plot);
    }

    private void grow(int n) {
        for (int i = 0; i < n; i++) {
            growth.value = Math.max(0, Math.min(MOST_VALUE, growth.value + gainOfGrowth()));
            growth.lain = lainAfter(growth.lain, growth.month);
            growth.month++;
        }
    }

    /** Held within 9 with a law and without one: a thing may lie ten whole years and more. */
    private int gainOfGrowth() {
        Law law = lawAt(holding);
        int gain = law != null ? law.worth(growth) : gainWithoutLaw();
        return Math.max(-MOST_GAIN, Math.min(MOST_GAIN, gain));
    }

    private int gainWithoutLaw() {
        if (growth.lain >= land.year) {
            return land.year > 0 ? -(growth.lain / land.year) : 0;
        }
        return growth.damp > growth.stuff ? 2 : 1;
    }

    private int lainAfter(int lain, int month) {
        boolean frosty = month % MONTHS_A_ROUND < land.frost;
        return Math.min(MOST_LAIN, lain + (frosty ? 2 : 1));
    }

    /** The value of a thing behind n months, were it alone in a row so damp. */
    private int valueAlone(Thing thing, int damp, int month, int n) {
        growth.begin(thing, damp, month);
        grow(n);
        return growth.value;
    }

    private int countBeside(int plot) {
        int beside = 0;
        for (int at = 0; at < PLACES; at++) {
            Thing other = now.findLying(at);
            if (other != null && land.steps(plot, other.plot) == 1) {
                beside++;
            }
        }
        return beside;
    }

    // ---- Promise 20: years by draws

    public int years(int n, long seed) {
        if (!known || n < 1 || n > MOST_AT_ONCE || now.month + n > LAST_MONTH) {
            return NONE;
        }
        drawn = seed;
        for (int i = 0; i < n; i++) {
            past.keep(now);
            sendMole();
            sendThief();
            passMonth();
        }
        return now.month;
    }

    private void sendMole() {
        if (draw(10) < moleCount) {
            Thing thing = now.find(now.placeOfPlot(draw(land.plots())));
            if (thing != null) {
                thing.value /= 2;
            }
        }
    }

    private void sendThief() {
        if (draw(10) < 2) {
            Thing thing = now.findLying(draw(PLACES));
            if (thing != null) {
                thing.staked = false;
            }
        }
    }

    private int draw(int sides) {
        drawn = drawn * 6364136223846793005L + 1442695040888963407L;
        return sides > 0 ? (int) ((drawn >>> 33) % sides) : 0;
    }

    // ---- Promises 21 to 23: status, undo, log

    public int status(int what) {
        return what >= 0 && what < STATUS_KINDS ? pick(refused, what) : NONE;
    }

    public int undo() {
        return past.restore(now) ? past.size() : NONE;
    }

    public int log(int i, int what) {
        if (i < 0 || i >= now.logLength) {
            return NONE;
        }
        int entry = Math.floorMod(now.logNext - 1 - i, MOST_LOGGED);
        switch (what) {
            case 0: return pick(now.logValue, entry);
            case 1: return pick(now.logLying, entry);
            case 2: return pick(now.logRipened, entry);
            default: return NONE;
        }
    }

    // ---- Promises 24 to 29: what will be

    public int grown(int at, int n) {
        Thing thing = now.find(at);
        if (thing == null || n < 0 || n > FAR) {
            return NONE;
        }
        if (thing.plot == NONE) {
            return thing.value;
        }
        startFrom(thing);
        grow(n);
        return growth.value;
    }

    public int ripeIn(int at) {
        Thing thing = now.findLying(at);
        return thing == null ? NONE : monthsToRipe(thing);
    }

    private int monthsToRipe(Thing thing) {
        int lain = thing.lain;
        for (int n = 0; n <= FAR; n++) {
            if (lain >= land.year) {
                return n;
            }
            lain = lainAfter(lain, now.month + n);
        }
        return NONE;
    }

    public int best(int at, int what) {
        Thing thing = now.findLying(at);
        if (thing == null || what < 0 || what > 1) {
            return NONE;
        }
        int when = NONE;
        int most = NONE;
        startFrom(thing);
        for (int n = 0; n <= BEST_FAR; n++) {
            if (growth.lain >= land.year && growth.value > most) {
                when = n;
                most = growth.value;
            }
            grow(1);
        }
        return what == 0 ? when : most;
    }

    public int laying(int n, int what) {
        if (!known || n < 1 || n > PLAN_FAR || what < 0 || what > 1) {
            return NONE;
        }
        plan.begin();
        for (int row = 0; row < land.rows; row++) {
            plan.setRoom(row, land.wide - countLyingIn(row));
        }
        plan.open();
        for (int at = 0; at < PLACES; at++) {
            Thing thing = now.find(at);
            if (thing == null || thing.plot != NONE) {
                plan.pass(at);
            } else {
                for (int row = 0; row < land.rows; row++) {
                    plan.setGain(row, valueAlone(thing, pick(land.damps, row), now.month, n));
                }
                plan.choose(at, thing.value);
            }
        }
        return what == 0 ? plan.bestValue() : plan.bestDigits();
    }

    private int countLyingIn(int row) {
        int lying = 0;
        for (int at = 0; at < PLACES; at++) {
            Thing thing = now.findLying(at);
            if (thing != null && land.rowOf(thing.plot) == row) {
                lying++;
            }
        }
        return lying;
    }

    public int way() {
        if (!known) {
            return NONE;
        }
        spade.begin();
        for (int at = 0; at < PLACES; at++) {
            Thing thing = now.findLying(at);
            if (thing != null && thing.staked && isRipe(thing)) {
                spade.addStop(thing.plot);
            }
        }
        return spade.fewestSteps(land);
    }

    public int full() {
        int latest = NONE;
        for (int at = 0; at < PLACES; at++) {
            Thing thing = now.findLying(at);
            if (thing != null) {
                int when = monthsToRipe(thing);
                if (when == NONE) {
                    return NONE;
                }
                latest = Math.max(latest, when);
            }
        }
        return latest;
    }

    // ---- Promises 30 to 32: how damp a row is by what came up

    public int seen(int told, int row, int n, int v, boolean more) {
        boolean bounded = n >= 1 && n <= PLAN_FAR && v >= 0 && v <= MOST_VALUE;
        if (toldThing(told) == null || !isRow(row) || !bounded || sights.size() >= MOST_SEEN) {
            return NONE;
        }
        sights.add(told, row, n, v, more);
        return sights.size();
    }

    public int damps(int row, int i) {
        if (!isRow(row) || i < NONE) {
            return NONE;
        }
        int found = 0;
        for (int damp = 0; damp < DAMP_KINDS; damp++) {
            if (mayBeSoDamp(row, damp)) {
                if (found == i) {
                    return damp;
                }
                found++;
            }
        }
        return i == NONE ? found : NONE;
    }

    public int ask(int row, int told) {
        Thing thing = toldThing(told);
        if (thing == null || !isRow(row)) {
            return NONE;
        }
        int fitting = 0;
        for (int damp = 0; damp < DAMP_KINDS; damp++) {
            fitting |= mayBeSoDamp(row, damp) ? 1 << damp : 0;
            place(sprouts, damp, thing.value);
        }
        return fitting == 0 ? NONE : askWhen(thing, fitting);
    }

    private int askWhen(Thing thing, int fitting) {
        int when = NONE;
        int fewest = DAMP_KINDS + 1;
        int lain = thing.lain;
        for (int n = 1; n <= PLAN_FAR; n++) {
            for (int damp = 0; damp < DAMP_KINDS; damp++) {
                growth.begin(thing, damp, n - 1);
                growth.value = pick(sprouts, damp);
                growth.lain = lain;
                grow(1);
                place(sprouts, damp, growth.value);
            }
            lain = growth.lain;
            int alike = mostAlike(fitting);
            if (alike < fewest) {
                fewest = alike;
                when = n;
            }
        }
        return when;
    }

    /** The most of the fitting damps by which the sprouts have one and the same value. */
    private int mostAlike(int fitting) {
        int most = 0;
        for (int damp = 0; damp < DAMP_KINDS; damp++) {
            int alike = 0;
            for (int other = 0; other < DAMP_KINDS; other++) {
                boolean both = (fitting >> damp & fitting >> other & 1) == 1;
                if (both && pick(sprouts, damp) == pick(sprouts, other)) {
                    alike++;
                }
            }
            most = Math.max(most, alike);
        }
        return most;
    }

    private boolean mayBeSoDamp(int row, int damp) {
        for (int i = 0; i < sights.size(); i++) {
            Thing thing = toldThing(pick(sights.thing, i));
            if (pick(sights.row, i) == row && thing != null) {
                boolean reached = valueAlone(thing, damp, 0, pick(sights.behind, i)) >= pick(sights.value, i);
                if (reached != (pick(sights.more, i) == 1)) {
                    return false;
                }
            }
        }
        return true;
    }

    private Thing toldThing(int number) {
        return known && number >= 0 && number < land.toldThings ? land.thingAt(number) : null;
    }

    // ---- Promises 33 to 37: games, odds, shares

    public int game(int one, int other, int x, int y, int what) {
        boolean bounded = isBit(x) && isBit(y) && isBit(what);
        if (!mayPlay(one, other) || !bounded) {
            return HIDDEN;
        }
        return what == 0 ? merchantHas(one, other, x, y) : thiefHas(one, other, x, y);
    }

    public int rests(int one, int other, int i) {
        if (!mayPlay(one, other) || i < NONE) {
            return NONE;
        }
        int found = 0;
        for (int pair = 0; pair < 4; pair++) {
            int x = pair / 2;
            int y = pair % 2;
            if (isRest(one, other, x, y)) {
                if (found == i) {
                    return 10 * x + y;
                }
                found++;
            }
        }
        return i == NONE ? found : NONE;
    }

    public int safe(int one, int other, int what) {
        if (!mayPlay(one, other) || !isBit(what)) {
            return HIDDEN;
        }
        int guard = 0;
        int least = BEYOND;
        for (int g = 0; g <= 100; g++) {
            int greater = Math.max(thiefMean(one, other, 0, g), thiefMean(one, other, 1, g));
            if (greater < least) {
                least = greater;
                guard = g;
            }
        }
        return what == 0 ? guard : least;
    }

    private int thiefMean(int one, int other, int y, int g) {
        return g * thiefHas(one, other, 0, y) + (100 - g) * thiefHas(one, other, 1, y);
    }

    private boolean isRest(int one, int other, int x, int y) {
        return merchantHas(one, other, x, y) >= merchantHas(one, other, 1 - x, y)
            && thiefHas(one, other, x, y) >= thiefHas(one, other, x, 1 - y);
    }

    private boolean mayPlay(int one, int other) {
        return one != other && now.findLying(one) != null && now.findLying(other) != null;
    }

    private int merchantHas(int one, int other, int x, int y) {
        return (x == y ? GUARD_PRIZE : -valueAt(y == 0 ? one : other)) - x;
    }

    private int thiefHas(int one, int other, int x, int y) {
        return x == y ? -GUARD_PRIZE : valueAt(y == 0 ? one : other);
    }

    private int valueAt(int at) {
        Thing thing = now.find(at);
        return thing == null ? 0 : thing.value;
    }

    private static boolean isBit(int n) {
        return n == 0 || n == 1;
    }

    public int odds(int at, int n, int v, int chance) {
        Thing thing = now.findLying(at);
        boolean bounded = n >= 0 && n <= ODDS_FAR && v >= 0 && v <= MOST_VALUE && chance >= 0 && chance <= 100;
        if (thing == null || !bounded) {
            return NONE;
        }
        long reached = 0;
        for (int moleMonths = 0; moleMonths < 1 << n; moleMonths++) {
            long parts = partsOf(moleMonths, n, chance);
            if (parts > 0 && valueByMoles(thing, moleMonths, n) >= v) {
                reached += parts;
            }
        }
        return (int) reached;
    }

    /** How many parts have a mole in just those months (bits). */
    private static long partsOf(int moleMonths, int n, int chance) {
        long parts = ALL_PARTS;
        for (int i = 0; i < n; i++) {
            long withMole = parts * chance / 100;
            parts = (moleMonths >> i & 1) == 1 ? withMole : parts - withMole;
        }
        return parts;
    }

    private int valueByMoles(Thing thing, int moleMonths, int n) {
        startFrom(thing);
        for (int i = 0; i < n; i++) {
            if ((moleMonths >> i & 1) == 1) {
                growth.value /= 2;
            }
            grow(1);
        }
        return growth.value;
    }

    public int shares(int at, int c) {
        Thing thing = now.find(at);
        if (thing == null || c < 0 || c > 999) {
            return NONE;
        }
        int all = valueOfAll();
        return all > 0 ? c * thing.value / all : 0;
    }

    private int valueOfAll() {
        int all = 0;
        for (int at = 0; at < PLACES; at++) {
            all += valueAt(at);
        }
        return all;
    }

    // ---- Promise 38: most

    public int most(int what) {
        if (!known) {
            return NONE;
        }
        switch (what) {
            case 0: return placeWithMost(true);
            case 1: return placeWithMost(false);
            case 2: return richestRow();
            case 3: return dampestRow();
            case 4: case 5: case 6: case 7: return placesThatAre(what);
            case 8: return land.plots() - Integer.bitCount(placesThatAre(5));
            case 9: return valueOfAll();
            case 10: return lawfulCoins();
            case 11: return pairsBeside();
            default: return NONE;
        }
    }

    private int placeWithMost(boolean byValue) {
        int which = NONE;
        int highest = NONE;
        for (int at = 0; at < PLACES; at++) {
            Thing thing = now.find(at);
            if (thing != null && (byValue ? thing.value : thing.lain) > highest) {
                highest = byValue ? thing.value : thing.lain;
                which = at;
            }
        }
        return which;
    }

    private int richestRow() {
        int richest = 0;
        int highest = NONE;
        for (int row = 0; row < land.rows; row++) {
            int value = 0;
            for (int at = 0; at < PLACES; at++) {
                Thing thing = now.findLying(at);
                value += thing != null && land.rowOf(thing.plot) == row ? thing.value : 0;
            }
            if (value > highest) {
                highest = value;
                richest = row;
            }
        }
        return richest;
    }

    private int dampestRow() {
        int dampest = 0;
        for (int row = 1; row < land.rows; row++) {
            if (pick(land.damps, row) > pick(land.damps, dampest)) {
                dampest = row;
            }
        }
        return dampest;
    }

    private int placesThatAre(int what) {
        int bits = 0;
        for (int at = 0; at < PLACES; at++) {
            Thing thing = now.find(at);
            if (thing != null && isSo(thing, what)) {
                bits |= 1 << at;
            }
        }
        return bits;
    }

    private boolean isSo(Thing thing, int what) {
        switch (what) {
            case 5: return thing.plot != NONE;
            case 6: return isRipe(thing);
            case 7: return thing.plot != NONE && !thing.staked;
            default: return true;
        }
    }

    private int lawfulCoins() {
        int coins = now.coins;
        for (int at = 0; at < PLACES; at++) {
            Thing thing = now.find(at);
            coins += thing != null && thing.plot == NONE && isRipe(thing) ? thing.value : 0;
        }
        return Math.min(MOST_COINS, coins);
    }

    private int pairsBeside() {
        int sides = 0;
        for (int at = 0; at < PLACES; at++) {
            Thing thing = now.findLying(at);
            sides += thing != null ? countBeside(thing.plot) : 0;
        }
        return sides / 2;
    }

    // ---- Promises 39 to 41: images, count

    public int image() {
        if (!known) {
            return NONE;
        }
        kept.copy(now);
        imaged = true;
        return now.month;
    }

    public int back() {
        if (!imaged) {
            return NONE;
        }
        now.copy(kept);
        past.forget();
        return now.month;
    }

    public int count(int what) {
        switch (what) {
            case 0: return known ? land.toldThings : 0;
            case 1: return Integer.bitCount(placesThatAre(4));
            case 2: return lawCount;
            case 3: return tape.size();
            case 4: return holding;
            case 5: return now.month;
            case 6: return moleCount;
            case 7: return sights.size();
            case 8: return now.logLength;
            case 9: return past.size();
            default: return HIDDEN;
        }
    }

    // ---- Rows of numbers, looked at before they are used

    private static int pick(int[] row, int i) {
        return i >= 0 && i < row.length ? row[i] : 0;
    }

    private static void place(int[] row, int i, int n) {
        if (i >= 0 && i < row.length) {
            row[i] = n;
        }
    }

    private static void copyRow(int[] from, int[] to) {
        for (int i = 0; i < from.length && i < to.length; i++) {
            to[i] = from[i];
        }
    }

    // ---- The classes inside

    /** The bytes that were fed, and how far they have been read. */
    private static final class Tape {
        private final int[] bytes = new int[MOST_BYTES];
        private int length = 0;
        private int head = 0;

        static int bytesIn(int word) {
            int found = 0;
            for (int shift = 24; shift >= 0; shift -= 8) {
                found += (word >>> shift & 255) != 0 ? 1 : 0;
            }
            return found;
        }

        void append(int word) {
            for (int shift = 24; shift >= 0; shift -= 8) {
                int piece = word >>> shift & 255;
                if (piece != 0 && length < MOST_BYTES) {
                    place(bytes, length, piece);
                    length++;
                }
            }
        }

        int size() {
            return length;
        }

        void cut(int n) {
            length = n;
        }

        void rewind() {
            head = 0;
        }

        int head() {
            return head;
        }

        /** The next byte that is no blank; NONE at the end. */
        int sign() {
            while (head < length && pick(bytes, head) == ' ') {
                head++;
            }
            return raw();
        }

        private int raw() {
            return head < length ? pick(bytes, head) : NONE;
        }

        void skip() {
            head++;
        }

        boolean took(int wanted) {
            if (sign() != wanted) {
                return false;
            }
            head++;
            return true;
        }

        /** A number; NONE if there is none here or it has too many digits, with the head at what is wrong. */
        int number(int mostDigits) {
            if (!isDigit(sign())) {
                return NONE;
            }
            int n = 0;
            for (int i = 0; i < mostDigits && isDigit(raw()); i++) {
                n = n * 10 + raw() - '0';
                head++;
            }
            return isDigit(raw()) ? NONE : n;
        }

        private static boolean isDigit(int sign) {
            return sign >= '0' && sign <= '9';
        }
    }

    /** One place for a thing. */
    private static final class Thing {
        private boolean there = false;
        private int value = 0;
        private int stuff = 0;
        private int plot = NONE;
        private int lain = 0;
        private boolean staked = false;

        void clear() {
            there = false;
            value = 0;
            stuff = 0;
            plot = NONE;
            lain = 0;
            staked = false;
        }

        void copy(Thing other) {
            there = other.there;
            value = other.value;
            stuff = other.stuff;
            plot = other.plot;
            lain = other.lain;
            staked = other.staked;
        }
    }

    /** A field as a text tells it. */
    private static final class Land {
        private static final int[] CLAUSE = {'s', 's', 's', 's', 's', 'r', 't', 't', 't', 't'};
        private static final int[] LETTER = {'w', 'h', 'y', 'f', 'k', 'd', 'v', 's', 'p', 'm'};
        private static final int[] LEAST = {1, 1, 1, 0, 0, 0, 1, 0, 0, 0};
        private static final int[] MOST = {6, 4, 24, 9, 99, 9, 99, 5, 23, 99};

        private final int[] damps = new int[MOST_ROWS];
        private final Thing[] things = new Thing[PLACES];
        private boolean ruled = false;
        private int wide = 0;
        private int rows = 0;
        private int year = 0;
        private int frost = 0;
        private int coins = 0;
        private int toldRows = 0;
        private int toldThings = 0;

        Land() {
            for (int i = 0; i < things.length; i++) {
                things[i] = new Thing();
            }
        }

        Thing thingAt(int i) {
            return i >= 0 && i < things.length ? things[i] : null;
        }

        int plots() {
            return wide * rows;
        }

        int rowOf(int plot) {
            return wide > 0 ? plot / wide : 0;
        }

        int steps(int from, int to) {
            int over = wide > 0 ? from % wide - to % wide : 0;
            return Math.abs(rowOf(from) - rowOf(to)) + Math.abs(over);
        }

        void copy(Land other) {
            copyRow(other.damps, damps);
            for (int i = 0; i < things.length; i++) {
                Thing to = things[i];
                Thing from = other.thingAt(i);
                if (to != null && from != null) {
                    to.copy(from);
                }
            }
            ruled = other.ruled;
            wide = other.wide;
            rows = other.rows;
            year = other.year;
            frost = other.frost;
            coins = other.coins;
            toldRows = other.toldRows;
            toldThings = other.toldThings;
        }

        private void clear() {
            for (int i = 0; i < MOST_ROWS; i++) {
                place(damps, i, 3);
            }
            for (int i = 0; i < things.length; i++) {
                Thing thing = things[i];
                if (thing != null) {
                    thing.clear();
                }
            }
            ruled = false;
            wide = 4;
            rows = 3;
            year = 12;
            frost = 2;
            coins = 30;
            toldRows = 0;
            toldThings = 0;
        }

        /** Takes over what the tape tells; answers the first byte that is wrong, NONE if none is. */
        int read(Tape tape) {
            clear();
            tape.rewind();
            for (int i = 0; i < MOST_BYTES; i++) {
                int clause = tape.sign();
                if (!opens(clause)) {
                    return tape.head();
                }
                tape.skip();
                int wrong = readItems(tape, clause);
                if (wrong != NONE) {
                    return wrong;
                }
                if (tape.sign() == NONE) {
                    return isWhole() ? NONE : tape.size();
                }
                tape.skip();
            }
            return tape.size();
        }

        private boolean opens(int clause) {
            if (clause == 's' && !ruled) {
                ruled = true;
                return true;
            }
            if (clause == 'r' && toldRows < MOST_ROWS) {
                toldRows++;
                return true;
            }
            if (clause == 't' && toldThings < PLACES) {
                Thing thing = thingAt(toldThings);
                if (thing != null) {
                    thing.there = true;
                    thing.value = 10;
                }
                toldThings++;
                return true;
            }
            return false;
        }

        /** Reads on to the next ; or the end; answers the byte that is wrong, NONE if none is. */
        private int readItems(Tape tape, int clause) {
            int had = 0;
            for (int i = 0; i <= LETTER.length; i++) {
                int sign = tape.sign();
                if (sign == NONE || sign == ';') {
                    return NONE;
                }
                int item = itemOf(clause, sign);
                if (item == NONE || (had >> item & 1) == 1) {
                    return tape.head();
                }
                had |= 1 << item;
                tape.skip();
                int n = tape.number(2);
                if (n == NONE) {
                    return tape.head();
                }
                if (n < pick(LEAST, item) || n > pick(MOST, item)) {
                    return tape.head() - 1;
                }
                tell(item, n);
            }
            return tape.head();
        }

        private static int itemOf(int clause, int sign) {
            for (int i = 0; i < LETTER.length; i++) {
                if (pick(CLAUSE, i) == clause && pick(LETTER, i) == sign) {
                    return i;
                }
            }
            return NONE;
        }

        private void tell(int item, int n) {
            switch (item) {
                case 0: wide = n; break;
                case 1: rows = n; break;
                case 2: year = n; break;
                case 3: frost = n; break;
                case 4: coins = n; break;
                case 5: place(damps, toldRows - 1, n); break;
                default: tellThing(thingAt(toldThings - 1), item, n); break;
            }
        }

        private static void tellThing(Thing thing, int item, int n) {
            if (thing != null) {
                switch (item) {
                    case 6: thing.value = n; break;
                    case 7: thing.stuff = n; break;
                    case 8:
                        thing.plot = n;
                        thing.staked = true;
                        break;
                    default: thing.lain = n; break;
                }
            }
        }

        /** Only the end shows this, as the rules may be told last. */
        private boolean isWhole() {
            int taken = 0;
            for (int i = 0; i < toldThings; i++) {
                Thing thing = thingAt(i);
                if (thing != null && thing.plot != NONE) {
                    if (thing.plot >= plots() || (taken >> thing.plot & 1) == 1) {
                        return false;
                    }
                    taken |= 1 << thing.plot;
                }
            }
            return toldRows <= rows;
        }
    }

    /** Things, coins, the month and the log: all that an act can change. */
    private static final class Stand {
        private final Thing[] places = new Thing[PLACES];
        private final int[] logValue = new int[MOST_LOGGED];
        private final int[] logLying = new int[MOST_LOGGED];
        private final int[] logRipened = new int[MOST_LOGGED];
        private int logLength = 0;
        private int logNext = 0;
        private int coins = 0;
        private int month = 0;

        Stand() {
            for (int at = 0; at < places.length; at++) {
                places[at] = new Thing();
            }
        }

        Thing slot(int at) {
            return at >= 0 && at < places.length ? places[at] : null;
        }

        /** The thing in a place; null if there is none or no such place. */
        Thing find(int at) {
            Thing thing = slot(at);
            return thing != null && thing.there ? thing : null;
        }

        Thing findLying(int at) {
            Thing thing = find(at);
            return thing != null && thing.plot != NONE ? thing : null;
        }

        int placeOfPlot(int plot) {
            for (int at = 0; at < PLACES; at++) {
                Thing thing = findLying(at);
                if (thing != null && thing.plot == plot) {
                    return at;
                }
            }
            return NONE;
        }

        int freePlace() {
            for (int at = 0; at < PLACES; at++) {
                if (find(at) == null) {
                    return at;
                }
            }
            return NONE;
        }

        void begin(Land land) {
            for (int at = 0; at < PLACES; at++) {
                Thing to = slot(at);
                Thing from = land.thingAt(at);
                if (to != null && from != null) {
                    to.copy(from);
                }
            }
            coins = land.coins;
            month = 0;
            logLength = 0;
            logNext = 0;
        }

        void copy(Stand other) {
            for (int at = 0; at < PLACES; at++) {
                Thing to = slot(at);
                Thing from = other.slot(at);
                if (to != null && from != null) {
                    to.copy(from);
                }
            }
            copyRow(other.logValue, logValue);
            copyRow(other.logLying, logLying);
            copyRow(other.logRipened, logRipened);
            logLength = other.logLength;
            logNext = other.logNext;
            coins = other.coins;
            month = other.month;
        }

        void write(int value, int lying, int ripened) {
            place(logValue, logNext, value);
            place(logLying, logNext, lying);
            place(logRipened, logNext, ripened);
            logNext = (logNext + 1) % MOST_LOGGED;
            logLength = Math.min(MOST_LOGGED, logLength + 1);
        }
    }

    /** How all stood ahead of each of the latest acts. */
    private static final class Past {
        private final Stand[] stands = new Stand[MOST_ACTS];
        private int first = 0;
        private int length = 0;

        Past() {
            for (int i = 0; i < stands.length; i++) {
                stands[i] = new Stand();
            }
        }

        int size() {
            return length;
        }

        void forget() {
            length = 0;
        }

        void keep(Stand now) {
            Stand free = at(length);
            if (free != null) {
                free.copy(now);
            }
            if (length < MOST_ACTS) {
                length++;
            } else {
                first = (first + 1) % MOST_ACTS;
            }
        }

        boolean restore(Stand now) {
            Stand latest = length > 0 ? at(length - 1) : null;
            if (latest == null) {
                return false;
            }
            now.copy(latest);
            length--;
            return true;
        }

        private Stand at(int i) {
            int ring = (first + i) % MOST_ACTS;
            return ring >= 0 && ring < stands.length ? stands[ring] : null;
        }
    }

    /** One thing as it grows, with all that its worth hangs on. */
    private static final class Growth {
        private int value = 0;
        private int stuff = 0;
        private int lain = 0;
        private int damp = 0;
        private int beside = 0;
        private int month = 0;

        void begin(Thing thing, int rowDamp, int fromMonth) {
            value = thing.value;
            stuff = thing.stuff;
            lain = thing.lain;
            damp = rowDamp;
            beside = 0;
            month = fromMonth;
        }
    }

    /**
     * A law as a row of steps, what is worked on ahead of its sign: a number as it is, a sign as 0 less its byte.
     * A ? leaves its clause if what stands ahead of it is false, a ; behind each clause gives what it comes to.
     */
    private static final class Law {
        private static final int DEEPEST = 6;
        private static final int LIMIT = 1000000;
        // Six brackets within one another hold back at most three numbers each.
        private static final int HELD_BACK = 64;

        private final int[] code = new int[MOST_BYTES];
        private final int[] stack = new int[HELD_BACK];
        private int length = 0;
        private int top = 0;

        void copy(Law other) {
            copyRow(other.code, code);
            length = other.length;
        }

        /** Takes over what the tape tells; answers the first byte that is wrong, NONE if none is. */
        int read(Tape tape) {
            length = 0;
            tape.rewind();
            for (int i = 0; i < MOST_BYTES; i++) {
                if (!readClause(tape)) {
                    return tape.head();
                }
                emit(-';');
                if (tape.sign() == NONE) {
                    return NONE;
                }
                if (!tape.took(';')) {
                    return tape.head();
                }
            }
            return tape.size();
        }

        private void emit(int step) {
            if (length < MOST_BYTES) {
                place(code, length, step);
                length++;
            }
        }

        private boolean readClause(Tape tape) {
            if (!tape.took('y') || !tape.took(':')) {
                return false;
            }
            if (!nests(tape.sign())) {
                // Only the sign behind the first sum shows whether a condition began with it.
                if (!readSum(tape, 0)) {
                    return false;
                }
                if (!compares(tape.sign())) {
                    return true;
                }
                return readCondition(tape, 0, true) && readGated(tape);
            }
            return readCondition(tape, 0, false) && readGated(tape);
        }

        private boolean readGated(Tape tape) {
            if (!tape.took('?')) {
                return false;
            }
            emit(-'?');
            return readSum(tape, 0);
        }

        /** begun: the first sum of it has been read. */
        private boolean readCondition(Tape tape, int depth, boolean begun) {
            if (!readTruth(tape, depth, begun)) {
                return false;
            }
            for (int i = 0; i < MOST_BYTES && tape.took('|'); i++) {
                if (!readTruth(tape, depth, false)) {
                    return false;
                }
                emit(-'|');
            }
            return true;
        }

        private boolean readTruth(Tape tape, int depth, boolean begun) {
            if (!(begun ? readComparison(tape, depth) : readUnit(tape, depth))) {
                return false;
            }
            for (int i = 0; i < MOST_BYTES && tape.took('&'); i++) {
                if (!readUnit(tape, depth)) {
                    return false;
                }
                emit(-'&');
            }
            return true;
        }

        private boolean readUnit(Tape tape, int depth) {
            int sign = tape.sign();
            if (!nests(sign)) {
                return readSum(tape, depth) && readComparison(tape, depth);
            }
            if (depth >= DEEPEST) {
                return false;
            }
            tape.skip();
            if (sign == '(') {
                return readCondition(tape, depth + 1, false) && tape.took(')');
            }
            if (!readUnit(tape, depth + 1)) {
                return false;
            }
            emit(-'!');
            return true;
        }

        private boolean readComparison(Tape tape, int depth) {
            int sign = tape.sign();
            if (!compares(sign)) {
                return false;
            }
            tape.skip();
            if (!readSum(tape, depth)) {
                return false;
            }
            emit(-sign);
            return true;
        }

        private boolean readSum(Tape tape, int depth) {
            if (!readTerm(tape, depth)) {
                return false;
            }
            for (int i = 0; i < MOST_BYTES; i++) {
                int sign = tape.sign();
                if (sign != '+' && sign != '-') {
                    return true;
                }
                tape.skip();
                if (!readTerm(tape, depth)) {
                    return false;
                }
                emit(-sign);
            }
            return true;
        }

        private boolean readTerm(Tape tape, int depth) {
            if (!readAtom(tape, depth)) {
                return false;
            }
            for (int i = 0; i < MOST_BYTES; i++) {
                int sign = tape.sign();
                if (sign != '*' && sign != '/') {
                    return true;
                }
                tape.skip();
                if (!readAtom(tape, depth)) {
                    return false;
                }
                emit(-sign);
            }
            return true;
        }

        private boolean readAtom(Tape tape, int depth) {
            int sign = tape.sign();
            if (sign == '[') {
                if (depth >= DEEPEST) {
                    return false;
                }
                tape.skip();
                return readSum(tape, depth + 1) && tape.took(']');
            }
            if (isLetter(sign)) {
                tape.skip();
                emit(-sign);
                return true;
            }
            int n = tape.number(4);
            if (n == NONE) {
                return false;
            }
            emit(n);
            return true;
        }

        private static boolean nests(int sign) {
            return sign == '!' || sign == '(';
        }

        private static boolean compares(int sign) {
            return sign == '=' || sign == '<' || sign == '>';
        }

        private static boolean isLetter(int sign) {
            switch (sign) {
                case 'v': case 's': case 'd': case 'm': case 'n': case 't': return true;
                default: return false;
            }
        }

        int worth(Growth growth) {
            boolean leaving = false;
            top = 0;
            for (int i = 0; i < length; i++) {
                int step = pick(code, i);
                if (leaving) {
                    leaving = step != -';';
                } else if (step == -';') {
                    return pop();
                } else if (step == -'?') {
                    leaving = pop() == 0;
                } else if (step >= 0) {
                    push(step);
                } else if (isLetter(-step)) {
                    push(letter(growth, -step));
                } else if (step == -'!') {
                    push(pop() == 0 ? 1 : 0);
                } else {
                    int right = pop();
                    push(joined(pop(), right, -step));
                }
            }
            return 0;
        }

        private void push(int n) {
            place(stack, top, n);
            top++;
        }

        private int pop() {
            top--;
            return pick(stack, top);
        }

        private static int letter(Growth growth, int sign) {
            switch (sign) {
                case 'v': return growth.value;
                case 's': return growth.stuff;
                case 'd': return growth.damp;
                case 'm': return growth.lain;
                case 'n': return growth.beside;
                default: return growth.month % MONTHS_A_ROUND;
            }
        }

        private static int joined(int left, int right, int sign) {
            switch (sign) {
                case '+': return held((long) left + right);
                case '-': return held((long) left - right);
                case '*': return held((long) left * right);
                case '/': return right != 0 ? left / right : 0;
                case '=': return left == right ? 1 : 0;
                case '<': return left < right ? 1 : 0;
                case '>': return left > right ? 1 : 0;
                case '&': return left & right;
                default: return left | right;
            }
        }

        private static int held(long n) {
            return n > LIMIT ? LIMIT : n < -LIMIT ? -LIMIT : (int) n;
        }
    }

    /** What was seen to come up. */
    private static final class Sights {
        private final int[] thing = new int[MOST_SEEN];
        private final int[] row = new int[MOST_SEEN];
        private final int[] behind = new int[MOST_SEEN];
        private final int[] value = new int[MOST_SEEN];
        private final int[] more = new int[MOST_SEEN];
        private int length = 0;

        int size() {
            return length;
        }

        void forget() {
            length = 0;
        }

        void add(int told, int inRow, int months, int v, boolean orMore) {
            place(thing, length, told);
            place(row, length, inRow);
            place(behind, length, months);
            place(value, length, v);
            place(more, length, orMore ? 1 : 0);
            length++;
        }
    }

    /**
     * Which thing to lay in which row. A load tells by its digits how many are laid in each row;
     * for each load the greatest mark is kept: the values, times SCALE, less the row of digits,
     * so that of equal values the least row of digits has the greater mark.
     */
    private static final class Plan {
        private static final long SCALE = 100000000L;
        private static final long NEVER = -1000000000000000L;
        private static final int MOST_LOADS = 2401;
        private static final int LEFT_OUT = 9;

        private final long[] marks = new long[MOST_LOADS];
        private final int[] room = new int[MOST_ROWS];
        private final int[] unit = new int[MOST_ROWS];
        private final int[] gain = new int[MOST_ROWS];
        private int loads = 1;

        void begin() {
            for (int row = 0; row < MOST_ROWS; row++) {
                place(room, row, 0);
            }
        }

        void setRoom(int row, int plots) {
            place(room, row, Math.max(0, Math.min(MOST_WIDE, plots)));
        }

        void setGain(int row, int value) {
            place(gain, row, value);
        }

        void open() {
            loads = 1;
            for (int row = 0; row < MOST_ROWS; row++) {
                place(unit, row, loads);
                loads *= pick(room, row) + 1;
            }
            for (int load = 0; load < marks.length; load++) {
                marks[load] = NEVER;
            }
            setMark(0, 0);
        }

        void pass(int at) {
            long digit = digitOf(at);
            for (int load = 0; load < loads; load++) {
                setMark(load, mark(load) - LEFT_OUT * digit);
            }
        }

        /** Lower loads are still those without this thing, as loads are gone through falling. */
        void choose(int at, int valueLeftOut) {
            long digit = digitOf(at);
            for (int load = loads - 1; load >= 0; load--) {
                long best = mark(load) + SCALE * valueLeftOut - LEFT_OUT * digit;
                for (int row = 0; row < MOST_ROWS; row++) {
                    if (laidIn(row, load) > 0) {
                        long laid = mark(load - pick(unit, row)) + SCALE * pick(gain, row) - row * digit;
                        best = Math.max(best, laid);
                    }
                }
                setMark(load, best);
            }
        }

        int bestValue() {
            return (int) Math.floorDiv(bestMark() + SCALE - 1, SCALE);
        }

        int bestDigits() {
            return (int) (SCALE * bestValue() - bestMark());
        }

        private long bestMark() {
            long best = NEVER;
            for (int load = 0; load < loads; load++) {
                best = Math.max(best, mark(load));
            }
            return best;
        }

        private int laidIn(int row, int load) {
            int one = pick(unit, row);
            int radix = pick(room, row) + 1;
            return one > 0 && radix > 0 ? load / one % radix : 0;
        }

        private static long digitOf(int at) {
            long digit = 1;
            for (int i = at; i < PLACES - 1; i++) {
                digit *= 10;
            }
            return digit;
        }

        private long mark(int load) {
            return load >= 0 && load < marks.length ? marks[load] : NEVER;
        }

        private void setMark(int load, long mark) {
            if (load >= 0 && load < marks.length) {
                marks[load] = mark;
            }
        }
    }

    /** The shortest way from plot 0 by all stops and back: for each set of stops and its last one the fewest steps. */
    private static final class Spade {
        private final int[] stops = new int[PLACES];
        private final int[] fewest = new int[PLACES << PLACES];
        private int length = 0;

        void begin() {
            length = 0;
        }

        void addStop(int plot) {
            if (length < PLACES) {
                place(stops, length, plot);
                length++;
            }
        }

        int fewestSteps(Land land) {
            if (length == 0) {
                return 0;
            }
            int sets = 1 << length;
            for (int set = 1; set < sets; set++) {
                for (int last = 0; last < length; last++) {
                    if ((set >> last & 1) == 1) {
                        place(fewest, set * PLACES + last, stepsTo(land, set, last));
                    }
                }
            }
            int best = BEYOND;
            for (int last = 0; last < length; last++) {
                int round = pick(fewest, (sets - 1) * PLACES + last) + land.steps(pick(stops, last), 0);
                best = Math.min(best, round);
            }
            return best;
        }

        private int stepsTo(Land land, int set, int last) {
            int others = set & ~(1 << last);
            int target = pick(stops, last);
            if (others == 0) {
                return land.steps(0, target);
            }
            int best = BEYOND;
            for (int from = 0; from < length; from++) {
                if ((others >> from & 1) == 1) {
                    int steps = pick(fewest, others * PLACES + from) + land.steps(pick(stops, from), target);
                    best = Math.min(best, steps);
                }
            }
            return best;
        }
    }
}
