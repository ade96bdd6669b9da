import java.math.BigInteger;
import java.util.ArrayList;
import java.util.Arrays;
import java.util.HashMap;
import java.util.HashSet;
import java.util.List;
import java.util.Map;
import java.util.Set;

/** The document once more, by brute force and from its words alone, for the likeness test. */
final class PlainPond {
    static final class Yard {
        boolean[] upright = new boolean[8];
        boolean[] level = new boolean[8];
        int[] straw = new int[64];
        int[] melted = new int[64];
        boolean[] sold = new boolean[64];
        int heap = 20;
        int day;
        int heat;
        int pence;
        int x = 73;

        Yard copy() {
            Yard made = new Yard();
            made.upright = upright.clone();
            made.level = level.clone();
            made.straw = straw.clone();
            made.melted = melted.clone();
            made.sold = sold.clone();
            made.heap = heap;
            made.day = day;
            made.heat = heat;
            made.pence = pence;
            made.x = x;
            return made;
        }
    }

    static final class All {
        int wide = 1;
        int high = 1;
        boolean told;
        Yard yard = new Yard();
        List<int[]> sights = new ArrayList<>();
        List<PlainText> texts = new ArrayList<>();
        int ruling = -1;
        List<Yard> steps = new ArrayList<>();
        List<List<int[]>> lists = new ArrayList<>();

        All() {
            for (int i = 0; i < 5; i++) lists.add(new ArrayList<>());
        }

        All copy() {
            All made = new All();
            made.wide = wide;
            made.high = high;
            made.told = told;
            made.yard = yard.copy();
            made.sights = new ArrayList<>(sights);
            made.texts = new ArrayList<>(texts);
            made.ruling = ruling;
            made.steps = new ArrayList<>();
            for (Yard step : steps) made.steps.add(step.copy());
            for (int i = 0; i < 5; i++) made.lists.set(i, new ArrayList<>(lists.get(i)));
            return made;
        }
    }

    private static final int ORDERS = 0;
    private static final int GLASSES = 1;
    private static final int BIDS = 2;
    private static final int MEASURES = 3;
    private static final int MELTS = 4;

    private All a = new All();
    private All image = new All();
    private final List<Byte> tape = new ArrayList<>();
    private boolean anyRead;
    private int fault;
    private int place;

    private static boolean in(int value, int least, int most) {
        return value >= least && value <= most;
    }

    // ---- rooms

    private List<int[]> laid;
    private int laidBy = -1;

    private List<int[]> blocks() {
        int by = ((set(a.yard.upright) * 256 + set(a.yard.level)) * 16 + a.wide) * 16 + a.high;
        if (by == laidBy) return laid;
        List<int[]> made = new ArrayList<>();
        for (int[] down : gaps(a.yard.level, a.high)) {
            for (int[] across : gaps(a.yard.upright, a.wide)) {
                made.add(new int[] {across[0], down[0], across[1], down[1]});
            }
        }
        laid = made;
        laidBy = by;
        return made;
    }

    private static List<int[]> gaps(boolean[] lines, int cells) {
        List<int[]> made = new ArrayList<>();
        int from = 0;
        for (int i = 1; i <= cells; i++) {
            if (i == cells || lines[i - 1]) {
                made.add(new int[] {from, i - from});
                from = i;
            }
        }
        return made;
    }

    private boolean isBlock(int b) {
        return in(b, 0, blocks().size() - 1);
    }

    private boolean isSight(int s) {
        return in(s, 0, a.sights.size() - 1);
    }

    private int size(int b) {
        return blocks().get(b)[2] * blocks().get(b)[3];
    }

    private int edge(int b) {
        int[] r = blocks().get(b);
        return (r[0] == 0 ? 1 : 0) + (r[1] == 0 ? 1 : 0) + (r[0] + r[2] == a.wide ? 1 : 0) + (r[1] + r[3] == a.high ? 1 : 0);
    }

    private int cells(int s, int b) {
        int[] r = blocks().get(b);
        int[] t = a.sights.get(s);
        int many = 0;
        for (int c = t[1]; c < t[1] + t[3]; c++) {
            for (int w = t[2]; w < t[2] + t[4]; w++) {
                if (in(c, r[0], r[0] + r[2] - 1) && in(w, r[1], r[1] + r[3] - 1)) many++;
            }
        }
        return many;
    }

    private List<Integer> sightsIn(int b) {
        List<Integer> made = new ArrayList<>();
        for (int s = 0; s < a.sights.size(); s++) if (cells(s, b) > 0) made.add(s);
        return made;
    }

    private static int bits(List<Integer> of) {
        int made = 0;
        for (int i : of) made |= 1 << i;
        return made;
    }

    // ---- laws

    private PlainText ruler() {
        return a.ruling < 0 ? null : a.texts.get(a.ruling);
    }

    private Map<String, Integer> names(int b, int day, int heat, int straw, int melted) {
        Map<String, Integer> made = new HashMap<>();
        made.put("day", day);
        made.put("heat", heat);
        made.put("size", size(b));
        made.put("straw", straw);
        made.put("melted", melted);
        made.put("edge", edge(b));
        return made;
    }

    private int melts(PlainText text, int b, int day, int heat, int straw, int melted) {
        boolean without = text == null || text.melts == null;
        int value = without ? heat + edge(b) - straw : text.melts.ask(names(b, day, heat, straw, melted));
        return Math.max(0, Math.min(100, value));
    }

    private int rots(PlainText text, int b, int day, int heat, int straw, int melted) {
        boolean without = text == null || text.rots == null;
        return without ? 0 : Math.max(0, Math.min(9, text.rots.ask(names(b, day, heat, straw, melted))));
    }

    private int sells(Yard y, int b) {
        PlainText text = ruler();
        int value;
        if (text == null || text.sells == null) {
            value = size(b) * (100 - y.melted[b]) / 10;
        } else {
            Map<String, Integer> names = names(b, y.day, y.heat, y.straw[b], y.melted[b]);
            Set<Integer> kinds = new HashSet<>();
            for (int s : sightsIn(b)) kinds.add(a.sights.get(s)[0]);
            names.put("sights", sightsIn(b).size());
            names.put("kinds", kinds.size());
            value = text.sells.ask(names);
        }
        return Math.max(0, Math.min(9999, value));
    }

    private static int draw(Yard y) {
        int x = y.x;
        y.x = (x * 281 + 179) % 30293;
        return x;
    }

    private boolean pass(Yard y) {
        if (y.day >= 999) return false;
        int n = blocks().size();
        for (int b = 0; b < n; b++) {
            if (!y.sold[b]) {
                y.melted[b] = Math.min(100, y.melted[b] + melts(ruler(), b, y.day, y.heat, y.straw[b], y.melted[b]));
            }
        }
        y.day++;
        y.heat = draw(y) % 10;
        for (int b = 0; b < n; b++) {
            if (!y.sold[b]) {
                y.straw[b] = Math.max(0, y.straw[b] - rots(ruler(), b, y.day, y.heat, y.straw[b], y.melted[b]));
            }
        }
        return true;
    }

    private Yard ahead(Yard from, int n) {
        Yard y = from.copy();
        for (int i = 0; i < n; i++) pass(y);
        return y;
    }

    private int showing(Yard y) {
        int made = 0;
        for (int b = 0; b < blocks().size(); b++) {
            for (int s : sightsIn(b)) if (y.melted[b] > 10 * a.sights.get(s)[5]) made |= 1 << s;
        }
        return made;
    }

    // ---- told

    boolean pond(int wide, int high) {
        if (!in(wide, 2, 8) || !in(high, 2, 8) || a.told) return false;
        a.told = true;
        a.wide = wide;
        a.high = high;
        return true;
    }

    int sight(int kind, int column, int row, int wide, int high, int layer) {
        if (!in(kind, 0, 9) || !in(column, 0, 7) || !in(row, 0, 7) || !in(wide, 1, 3) || !in(high, 1, 3) || !in(layer, 0, 9)
                || column + wide > a.wide || row + high > a.high || a.sights.size() == 12) return -1;
        a.sights.add(new int[] {kind, column, row, wide, high, layer});
        return a.sights.size() - 1;
    }

    int feed(int one, int two, int three, int four, int five) {
        if (tape.size() + 20 > 300) return -1;
        for (int bytes : new int[] {one, two, three, four, five}) {
            for (int i = 3; i >= 0; i--) tape.add((byte) (bytes >>> 8 * i));
        }
        return tape.size();
    }

    int end(int n) {
        if (n < 0 || n > tape.size()) return -1;
        while (tape.size() > n) tape.remove(tape.size() - 1);
        return n;
    }

    int text() {
        if (a.texts.size() == 4) return -1;
        byte[] bytes = new byte[tape.size()];
        for (int i = 0; i < bytes.length; i++) bytes[i] = tape.get(i);
        tape.clear();
        anyRead = true;
        try {
            a.texts.add(new PlainText(bytes));
            fault = 0;
            place = -1;
            return a.texts.size() - 1;
        } catch (PlainText.Fault wrong) {
            fault = wrong.which;
            place = wrong.place;
            return -1;
        }
    }

    int fault(int what) {
        return !anyRead || !in(what, 0, 1) ? -1 : what == 0 ? fault : place;
    }

    boolean by(int text) {
        if (!in(text, -1, a.texts.size() - 1)) return false;
        a.ruling = text;
        return true;
    }

    // ---- steps

    private void step() {
        a.steps.add(a.yard.copy());
        if (a.steps.size() > 30) a.steps.remove(0);
    }

    int saw(int line, boolean upright) {
        boolean[] lines = upright ? a.yard.upright : a.yard.level;
        if (!in(line, 0, (upright ? a.wide : a.high) - 2) || lines[line]) return -1;
        for (int b = 0; b < 64; b++) if (a.yard.straw[b] > 0 || a.yard.melted[b] > 0 || a.yard.sold[b]) return -1;
        step();
        lines[line] = true;
        return blocks().size();
    }

    private boolean canLay(int n, int b) {
        Yard y = a.yard;
        return isBlock(b) && n != 0 && in(n, -9, 9) && !y.sold[b] && in(y.straw[b] + n, 0, 9) && in(y.heap - n, 0, 99);
    }

    private void lay(int n, int b) {
        a.yard.straw[b] += n;
        a.yard.heap -= n;
    }

    int straw(int n, int b) {
        if (!canLay(n, b)) return -1;
        step();
        lay(n, b);
        return a.yard.straw[b];
    }

    int day(int n) {
        if (!in(n, 1, 60) || a.yard.day + n > 999) return -1;
        for (int i = 0; i < n; i++) {
            step();
            pass(a.yard);
        }
        return a.yard.heat;
    }

    private boolean canSell(int b) {
        return isBlock(b) && !a.yard.sold[b] && a.yard.melted[b] < 100;
    }

    private int sellOff(int b) {
        int pence = sells(a.yard, b);
        a.yard.pence += pence;
        a.yard.heap = Math.min(99, a.yard.heap + a.yard.straw[b]);
        a.yard.straw[b] = 0;
        a.yard.sold[b] = true;
        return pence;
    }

    int sell(int b) {
        if (!canSell(b)) return -1;
        step();
        return sellOff(b);
    }

    int played(int text) {
        if (!in(text, 0, a.texts.size() - 1)) return -2;
        List<PlainText.Clause> clauses = a.texts.get(text).clauses;
        for (int i = 0; i < clauses.size(); i++) if (!done(clauses.get(i))) return i;
        return -1;
    }

    private boolean done(PlainText.Clause clause) {
        List<Integer> n = clause.numbers;
        switch (clause.word) {
            case "pond": return pond(n.get(0), n.get(1));
            case "sight": return sight(n.get(0), n.get(1), n.get(2), n.get(3), n.get(4), n.get(5)) >= 0;
            case "saw": return saw(n.get(0), true) >= 0;
            case "cross": return saw(n.get(0), false) >= 0;
            case "straw": return straw(n.get(0), n.get(1)) >= 0;
            case "sell": return sell(n.get(0)) >= 0;
            case "day":
                for (int i = 0; i < n.get(0); i++) if (day(1) < 0) return false;
                return true;
            default: return true;
        }
    }

    int summer(int seed, int n) {
        if (!in(seed, 0, 9999) || !in(n, 1, 40)) return -1;
        step();
        a.yard.x = seed * 3 + 73;
        for (int i = 0; i < n; i++) {
            int x = draw(a.yard);
            int b = x % blocks().size();
            if (x % 4 == 0) {
                if (canLay(1, b)) lay(1, b);
            } else if (x % 4 == 1) {
                if (canSell(b)) sellOff(b);
            } else {
                pass(a.yard);
            }
        }
        return a.yard.pence;
    }

    int undo() {
        if (a.steps.isEmpty()) return -1;
        a.yard = a.steps.remove(a.steps.size() - 1);
        return a.steps.size();
    }

    // ---- what is

    int block(int b, int what) {
        if (!isBlock(b) || !in(what, 0, 10)) return -1;
        Yard y = a.yard;
        if (what < 4) return blocks().get(b)[what];
        switch (what) {
            case 4: return y.straw[b];
            case 5: return y.melted[b];
            case 6: return y.sold[b] ? 1 : 0;
            case 7: return edge(b);
            case 8: return bits(sightsIn(b));
            case 9: return melts(ruler(), b, y.day, y.heat, y.straw[b], y.melted[b]);
            default: return sells(y, b);
        }
    }

    int blockOf(int column, int row) {
        for (int b = 0; b < blocks().size(); b++) {
            int[] r = blocks().get(b);
            if (in(column, r[0], r[0] + r[2] - 1) && in(row, r[1], r[1] + r[3] - 1)) return b;
        }
        return -1;
    }

    int ofSight(int s, int what) {
        if (!isSight(s) || !in(what, 0, 7)) return -1;
        if (what < 6) return a.sights.get(s)[what];
        return (what == 6 ? whole() : showing(a.yard)) >> s & 1;
    }

    private static int set(boolean[] lines) {
        int made = 0;
        for (int i = 0; i < lines.length; i++) if (lines[i]) made |= 1 << i;
        return made;
    }

    int is(int what) {
        Yard y = a.yard;
        int[] all = {y.day, y.heat, y.pence, y.heap, y.x, set(y.upright), set(y.level), a.wide, a.high, blocks().size()};
        return in(what, 0, 9) ? all[what] : -2;
    }

    private boolean isWhole(int s, int upright, int level) {
        int[] t = a.sights.get(s);
        for (int c = t[1]; c < t[1] + t[3] - 1; c++) if ((upright >> c & 1) == 1) return false;
        for (int w = t[2]; w < t[2] + t[4] - 1; w++) if ((level >> w & 1) == 1) return false;
        return true;
    }

    int whole() {
        int made = 0;
        for (int s = 0; s < a.sights.size(); s++) if (isWhole(s, set(a.yard.upright), set(a.yard.level))) made |= 1 << s;
        return made;
    }

    private static boolean[] lines(int set) {
        boolean[] made = new boolean[8];
        for (int i = 0; i < 8; i++) made[i] = (set >> i & 1) == 1;
        return made;
    }

    int sawing(int sights, int m, int what) {
        if (sights < 0 || sights >= 1 << a.sights.size() || !in(m, 1, 64) || !in(what, 0, 2)) return -1;
        int[] best = {-1, -1, -1};
        for (int u = 0; u < 1 << (a.wide - 1); u++) {
            List<int[]> across = gaps(lines(u), a.wide);
            for (int l = 0; l < 1 << (a.high - 1); l++) {
                boolean good = true;
                for (int s = 0; s < a.sights.size(); s++) if ((sights >> s & 1) == 1) good &= isWhole(s, u, l);
                if (!good) continue;
                List<int[]> down = gaps(lines(l), a.high);
                for (int[] c : across) for (int[] w : down) good &= c[1] * w[1] >= m;
                if (good && across.size() * down.size() > best[0]) best = new int[] {across.size() * down.size(), u, l};
            }
        }
        return best[what];
    }

    int foretold(int n, int b) {
        if (!in(n, 1, 60) || b != -1 && !isBlock(b)) return -1;
        Yard y = ahead(a.yard, n);
        return b == -1 ? showing(y) : y.melted[b];
    }

    int showsIn(int s) {
        if (!isSight(s)) return -1;
        Yard y = a.yard.copy();
        for (int n = 0; n <= 60; n++) {
            if ((showing(y) >> s & 1) == 1) return n;
            pass(y);
        }
        return -1;
    }

    int dearest(int i) {
        List<Integer> some = new ArrayList<>();
        for (int b = 0; b < blocks().size(); b++) if (canSell(b)) some.add(b);
        Map<Integer, Integer> worth = new HashMap<>();
        for (int b : some) worth.put(b, sells(a.yard, b));
        some.sort((p, q) -> !worth.get(p).equals(worth.get(q)) ? worth.get(q) - worth.get(p) : p - q);
        return in(i, 0, some.size() - 1) ? some.get(i) : -1;
    }

    int together(int b) {
        if (!isBlock(b)) return -1;
        int many = 0;
        for (int s : sightsIn(b)) {
            for (int t : sightsIn(b)) {
                if (s < t && a.sights.get(s)[0] != a.sights.get(t)[0] && a.sights.get(s)[5] == a.sights.get(t)[5]) many++;
            }
        }
        return many;
    }

    int ice(boolean sold) {
        int many = 0;
        for (int b = 0; b < blocks().size(); b++) if (a.yard.sold[b] == sold) many += size(b);
        return many;
    }

    int gone() {
        int many = 0;
        for (int b = 0; b < blocks().size(); b++) if (a.yard.melted[b] == 100) many++;
        return many;
    }

    int litter() {
        return Arrays.stream(a.yard.straw).sum();
    }

    // ---- odds, orders, glasses

    private int left(int b, int n, int day, int heat, int straw, int melted) {
        if (n == 0) return melted < 100 ? 1 : 0;
        int then = Math.min(100, melted + melts(ruler(), b, day, heat, straw, melted));
        if (n == 1) return then < 100 ? 1 : 0;
        int many = 0;
        for (int h = 0; h < 10; h++) {
            many += left(b, n - 1, day + 1, h, Math.max(0, straw - rots(ruler(), b, day + 1, h, straw, then)), then);
        }
        return many;
    }

    private int all(int n) {
        return n < 2 ? 1 : 10 * all(n - 1);
    }

    private int left(int b, int n) {
        Yard y = a.yard;
        return y.sold[b] ? all(n) : left(b, n, y.day, y.heat, y.straw[b], y.melted[b]);
    }

    private static long lowest(long upper, long lower, boolean low) {
        long by = BigInteger.valueOf(upper).gcd(BigInteger.valueOf(lower)).longValue();
        return (low ? lower : upper) / by;
    }

    long lasts(int b, int n, boolean low) {
        if (!isBlock(b) || !in(n, 0, 4)) return -1;
        return lowest(left(b, n), all(n), low);
    }

    int sellFirst(int n) {
        if (!in(n, 0, 4)) return -1;
        int first = -1;
        int least = Integer.MAX_VALUE;
        for (int b = 0; b < blocks().size(); b++) {
            if (!canSell(b)) continue;
            int left = left(b, n);
            if (left < least) {
                least = left;
                first = b;
            }
        }
        return first;
    }

    private int add(int list, int most, int... row) {
        List<int[]> of = a.lists.get(list);
        if (of.size() == most) return -2;
        of.add(row);
        return of.size();
    }

    private int clear(int list) {
        a.lists.get(list).clear();
        return 0;
    }

    int order(int kind, int due, int pence) {
        if (kind == -1) return clear(ORDERS);
        if (!in(kind, 0, 9) || !in(due, 0, 999) || !in(pence, 1, 99)) return -2;
        return add(ORDERS, 5, kind, due, pence);
    }

    private boolean serves(int[] order, int b, Yard then) {
        if (a.yard.sold[b]) return false;
        for (int s : sightsIn(b)) {
            int[] t = a.sights.get(s);
            if (t[0] == order[0] && cells(s, b) == t[3] * t[4] && then.melted[b] <= 10 * t[5]) return true;
        }
        return false;
    }

    private int bestPence;
    private int[] bestBlocks;

    private void serve(List<List<Integer>> can, int[] chosen, int i, int pence) {
        List<int[]> orders = a.lists.get(ORDERS);
        if (i == orders.size()) {
            if (pence > bestPence) {
                bestPence = pence;
                bestBlocks = chosen.clone();
            }
            return;
        }
        for (int b : can.get(i)) {
            boolean free = true;
            for (int j = 0; j < i; j++) free &= chosen[j] != b;
            if (!free) continue;
            chosen[i] = b;
            serve(can, chosen, i + 1, pence + orders.get(i)[2]);
        }
        chosen[i] = -1;
        serve(can, chosen, i + 1, pence);
    }

    int served(int order) {
        List<int[]> orders = a.lists.get(ORDERS);
        if (!in(order, -1, orders.size() - 1)) return -2;
        List<List<Integer>> can = new ArrayList<>();
        for (int[] o : orders) {
            List<Integer> some = new ArrayList<>();
            int days = o[1] - a.yard.day;
            if (in(days, 0, 60)) {
                Yard then = ahead(a.yard, days);
                for (int b = 0; b < blocks().size(); b++) if (serves(o, b, then)) some.add(b);
            }
            can.add(some);
        }
        bestPence = -1;
        serve(can, new int[5], 0, 0);
        return order == -1 ? bestPence : bestBlocks[order];
    }

    int glass(int kind, int b, int melted, boolean seen) {
        if (kind == -1) return clear(GLASSES);
        if (!in(kind, 0, 9) || !in(b, 0, 63) || !in(melted, 0, 100)) return -2;
        return add(GLASSES, 8, kind, b, melted, seen ? 1 : 0);
    }

    int layers(int kind, int b) {
        if (!in(kind, 0, 9) || !in(b, 0, 63)) return -1;
        int made = 1023;
        for (int[] g : a.lists.get(GLASSES)) {
            if (g[0] != kind || g[1] != b) continue;
            for (int l = 0; l < 10; l++) if (g[2] > 10 * l != (g[3] == 1)) made &= ~(1 << l);
        }
        return made;
    }

    // ---- auctions and the rest

    int bid(int bid) {
        if (bid == -1) return clear(BIDS);
        return in(bid, 0, 999) ? add(BIDS, 8, bid) : -2;
    }

    private static int[] sale(int[] bids) {
        int who = 0;
        for (int i = 1; i < bids.length; i++) if (bids[i] > bids[who]) who = i;
        int pays = 0;
        for (int i = 0; i < bids.length; i++) if (i != who) pays = Math.max(pays, bids[i]);
        return new int[] {who, pays};
    }

    private int[] bids() {
        return a.lists.get(BIDS).stream().mapToInt(b -> b[0]).toArray();
    }

    int auction(int what) {
        return bids().length == 0 || !in(what, 0, 1) ? -1 : sale(bids())[what];
    }

    int lies(int k) {
        int[] bids = bids();
        if (!in(k, 0, bids.length - 1)) return -2;
        int worth = bids[k];
        int own = sale(bids)[0] == k ? worth - sale(bids)[1] : 0;
        int most = Integer.MIN_VALUE;
        for (int bid = 0; bid <= 999; bid++) {
            bids[k] = bid;
            most = Math.max(most, sale(bids)[0] == k ? worth - sale(bids)[1] : 0);
        }
        return most - own;
    }

    int kiss(int s, int b, boolean low) {
        if (!isSight(s) || !isBlock(b)) return -1;
        return (int) lowest(cells(s, b), a.sights.get(s)[3] * a.sights.get(s)[4], low);
    }

    int unseen(int kind, boolean shows) {
        if (!in(kind, 0, 9)) return -1;
        int pence = 0;
        for (int b = 0; b < blocks().size(); b++) {
            boolean has = false;
            for (int s : sightsIn(b)) has |= a.sights.get(s)[0] == kind;
            if (has && !a.yard.sold[b]) pence += sells(a.yard, b);
        }
        int one = 0;
        for (int s = 0; s < a.sights.size(); s++) {
            if (a.sights.get(s)[0] == kind && (showing(a.yard) >> s & 1) == 1) one = 1;
        }
        return shows ? one : pence;
    }

    int measure(int day, int melted) {
        if (day == -1) return clear(MEASURES);
        return in(day, 0, 999) && in(melted, 0, 100) ? add(MEASURES, 8, day, melted) : -2;
    }

    int speed(int what) {
        if (!in(what, 0, 3)) return -100000;
        List<long[]> all = new ArrayList<>();
        for (int[] p : a.lists.get(MEASURES)) {
            for (int[] q : a.lists.get(MEASURES)) if (q[0] > p[0]) all.add(new long[] {q[1] - p[1], q[0] - p[0]});
        }
        if (all.isEmpty()) return -100000;
        all.sort((p, q) -> Long.compare(p[0] * q[1], q[0] * p[1]));
        long[] one = all.get(what < 2 ? all.size() - 1 : 0);
        return (int) lowest(one[0], one[1], what % 2 == 1);
    }

    private final Map<List<Integer>, Integer> leads = new HashMap<>();

    private int lead(List<Integer> worth) {
        if (worth.isEmpty()) return 0;
        Integer known = leads.get(worth);
        if (known != null) return known;
        int n = worth.size();
        int lead = Math.max(worth.get(0) - lead(worth.subList(1, n)), worth.get(n - 1) - lead(worth.subList(0, n - 1)));
        leads.put(new ArrayList<>(worth), lead);
        return lead;
    }

    int sellers(int what) {
        leads.clear();
        List<Integer> worth = new ArrayList<>();
        for (int b = 0; b < blocks().size() && worth.size() < 16; b++) if (!a.yard.sold[b]) worth.add(sells(a.yard, b));
        if (worth.isEmpty() || !in(what, 0, 1)) return -100000;
        int n = worth.size();
        int first = worth.get(0) - lead(worth.subList(1, n));
        int last = worth.get(n - 1) - lead(worth.subList(0, n - 1));
        return what == 0 ? Math.max(first, last) : first >= last ? 0 : 1;
    }

    int strawBest(int n, int m) {
        if (!in(n, 0, 9) || !in(m, 1, 20)) return -1;
        int best = -1;
        int most = -1;
        for (int b = 0; b < blocks().size(); b++) {
            if (a.yard.sold[b]) continue;
            Yard y = a.yard.copy();
            y.straw[b] = Math.min(9, y.straw[b] + n);
            y = ahead(y, m);
            int pence = 0;
            for (int c = 0; c < blocks().size(); c++) if (!y.sold[c] && y.melted[c] < 100) pence += sells(y, c);
            if (pence > most) {
                most = pence;
                best = b;
            }
        }
        return best;
    }

    int melt(int b, int heat, int straw, int melts) {
        if (b == -1) return clear(MELTS);
        if (!isBlock(b) || !in(heat, 0, 9) || !in(straw, 0, 9) || !in(melts, 0, 100)) return -2;
        return add(MELTS, 8, b, heat, straw, melts);
    }

    int whoseLaw() {
        int made = 0;
        for (int t = 0; t < a.texts.size(); t++) {
            boolean so = true;
            for (int[] m : a.lists.get(MELTS)) {
                so &= isBlock(m[0]) && melts(a.texts.get(t), m[0], a.yard.day, m[1], m[2], a.yard.melted[m[0]]) == m[3];
            }
            if (so) made |= 1 << t;
        }
        return made;
    }

    int image() {
        image = a.copy();
        return a.yard.day;
    }

    int back() {
        a = image.copy();
        return a.yard.day;
    }

    int about(int what) {
        if (what == 9) return tape.size();
        if (in(what, 4, 8)) return a.lists.get(what - 4).size();
        int[] all = {a.sights.size(), a.texts.size(), a.ruling, a.steps.size()};
        return in(what, 0, 3) ? all[what] : -2;
    }
}
