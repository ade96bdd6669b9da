/** The document's words on trade, summers and the image, each with its edges: parts IV and V, promises 35 to 48. */
public final class EdgesOfTradeTest {
    private static final int[] FAR = {Integer.MIN_VALUE, -65, -2, 64, 1000, Integer.MAX_VALUE};
    private static final int NO_NUMBER = -100000;

    public static void main(String[] args) {
        bids();
        lies();
        kiss();
        unseen();
        measures();
        speed();
        sellers();
        strawBest();
        melts();
        whoseLaw();
        summer();
        image();
        about();
        Check.finish();
    }

    private static void auction(CutInMay x, int who, int howMuch) {
        Check.due("who", x.auction(0), who);
        Check.due("how much", x.auction(1), howMuch);
    }

    private static void bids() {
        Check.says("IV", "BIDS (8 at most; told: 0 .. 999 each): the highest gets it (of like ones the first), "
                + "and pays the second highest (0 if it is alone): who, how much.");
        CutInMay x = new CutInMay();
        x.bid(999);
        auction(x, 0, 0);
        x.bid(0);
        auction(x, 0, 0);
        x.bid(5);
        auction(x, 0, 5);
        x.bid(999);
        auction(x, 0, 999);
        for (int i = 5; i <= 8; i++) Check.due("up to 8", x.bid(999), i);
        auction(x, 0, 999);
        Check.refused(x, "a ninth", () -> x.bid(0), -2);
        CutInMay y = new CutInMay();
        for (int bid = 0; bid < 8; bid++) y.bid(bid * 100);
        auction(y, 7, 600);
        CutInMay z = new CutInMay();
        z.bid(0);
        z.bid(0);
        auction(z, 0, 0);
        Check.says("35", "A BID: how many there are (bid NONE: none any more).");
        Check.due("none any more", z.bid(-1), 0);
        Check.due("none of none", z.bid(-1), 0);
        Check.due("0", z.bid(0), 1);
        Check.due("999", z.bid(999), 2);
        Check.says("35", "-2 for others, or if there are 8.");
        Check.still(z, () -> {
            int[] wrong = {-2, 1000, Integer.MIN_VALUE, Integer.MAX_VALUE};
            for (int bid : wrong) Check.due("bid " + bid, z.bid(bid), -2);
        });
        for (int i = 3; i <= 8; i++) z.bid(1);
        Check.refused(z, "there are 8", () -> z.bid(1), -2);
        Check.says("36", "BIDS: who gets it (what 0), what it pays (1).");
        auction(z, 1, 1);
        Check.says("36", "NONE without any, and for others.");
        Check.due("what 2", z.auction(2), -1);
        Check.due("what -1", z.auction(-1), -1);
        for (int far : FAR) Check.due("what " + far, z.auction(far), -1);
        z.bid(-1);
        auction(z, -1, -1);
        auction(new CutInMay(), -1, -1);
    }

    /** What the k-th gets of these BIDS when it bids so much, its own being what it is worth to it. */
    private static int gets(int[] bids, int k, int bid) {
        int[] told = bids.clone();
        told[k] = bid;
        CutInMay x = new CutInMay();
        for (int one : told) x.bid(one);
        return x.auction(0) == k ? bids[k] - x.auction(1) : 0;
    }

    private static void lies() {
        Check.says("IV", "LIES: its own BID being what it is worth to the k-th (it gets that less what it pays, or 0 without): "
                + "what it gets at most by any BID (0 .. 999) in its place, less what it gets by its own.");
        int[][] all = {{0}, {999}, {5, 5}, {999, 999}, {0, 0, 0}, {3, 9, 6}, {999, 0, 998}};
        for (int[] bids : all) {
            CutInMay x = new CutInMay();
            for (int bid : bids) x.bid(bid);
            for (int k = 0; k < bids.length; k++) {
                int most = Integer.MIN_VALUE;
                for (int bid = 0; bid <= 999; bid++) most = Math.max(most, gets(bids, k, bid));
                Check.due("the " + k + "-th of " + bids.length, x.lies(k), most - gets(bids, k, bids[k]));
            }
        }
        Check.says("37", "LIES: what the k-th gets at most by any BID, less what it gets by its own.");
        CutInMay eight = new CutInMay();
        for (int bid = 1; bid <= 8; bid++) eight.bid(bid * 111);
        for (int k = 0; k < 8; k++) Check.due("no lie gets more, the " + k + "-th of 8", eight.lies(k), 0);
        Check.says("37", "-2 for others.");
        CutInMay y = new CutInMay();
        Check.due("0 of none", y.lies(0), -2);
        y.bid(7);
        Check.due("1 of one", y.lies(1), -2);
        Check.due("-1", y.lies(-1), -2);
        for (int far : FAR) Check.due("k " + far, y.lies(far), -2);
    }

    private static void kiss(CutInMay x, int sight, int block, int upper, int lower) {
        Check.due("kiss " + sight + ", " + block + ", upper", x.kiss(sight, block, false), upper);
        Check.due("kiss " + sight + ", " + block + ", lower", x.kiss(sight, block, true), lower);
    }

    private static void kiss() {
        Check.says("IV", "A KISS is shared: parts of a SIGHT by BLOCKS: cells of it in a BLOCK by all its cells; in lowest terms.");
        CutInMay x = Check.pond(4, 3, 0b001, 0b01);
        x.sight(0, 0, 0, 3, 3, 0);
        int[][] parts = {{1, 9}, {2, 9}, {2, 9}, {4, 9}};
        for (int block = 0; block < 4; block++) kiss(x, 0, block, parts[block][0], parts[block][1]);
        x.sight(0, 0, 0, 2, 3, 0);
        int[][] lowest = {{1, 6}, {1, 6}, {1, 3}, {1, 3}};
        for (int block = 0; block < 4; block++) kiss(x, 1, block, lowest[block][0], lowest[block][1]);
        Check.says("38", "A KISS: the upper (low false), the lower one (low true).");
        x.sight(0, 1, 1, 3, 2, 0);
        kiss(x, 2, 3, 1, 1);
        kiss(x, 2, 0, 0, 1);
        x.sell(3);
        kiss(x, 2, 3, 1, 1);
        CutInMay y = Check.pond(4, 4, 0b111, 0b111);
        y.sight(0, 0, 0, 1, 1, 0);
        kiss(y, 0, 0, 1, 1);
        for (int block = 1; block < 16; block++) kiss(y, 0, block, 0, 1);
        Check.says("38", "NONE for others.");
        int[][] wrong = {{3, 0}, {-1, 0}, {0, 4}, {0, -1}};
        for (int[] w : wrong) kiss(x, w[0], w[1], -1, -1);
        for (int far : FAR) {
            kiss(x, far, 0, -1, -1);
            kiss(x, 0, far, -1, -1);
        }
        kiss(new CutInMay(), 0, 0, -1, -1);
    }

    private static void unseen() {
        Check.says("IV", "UNSEEN: the PENCE (as sells says now) of all BLOCKS not SOLD with a cell of some SIGHT of a KIND; whether one SHOWS already.");
        CutInMay x = Check.pond(4, 2, 0b111, 0);
        x.sight(1, 0, 0, 2, 1, 9);
        x.sight(1, 1, 0, 2, 1, 5);
        x.sight(2, 2, 0, 1, 1, 0);
        Check.due("three blocks, each once", x.unseen(1, false), 60);
        Check.due("one block", x.unseen(2, false), 20);
        Check.due("no such kind", x.unseen(3, false), 0);
        x.sell(0);
        Check.due("not the sold one", x.unseen(1, false), 40);
        Check.rule(x, "melts 50;sells 7;");
        x.day(1);
        Check.due("as sells says now", x.unseen(1, false), 14);
        Check.due("50 is not more than 50", x.unseen(1, true), 0);
        Check.due("the other kind shows", x.unseen(2, true), 1);
        x.sell(2);
        Check.due("in a sold one", x.unseen(2, true), 1);
        Check.due("no block is left", x.unseen(2, false), 0);
        x.day(1);
        Check.due("of one that is gone, as sells says", x.unseen(1, false), 7);
        Check.due("it shows", x.unseen(1, true), 1);
        Check.says("39", "UNSEEN: PENCE (shows false), 1 if one SHOWS already, else 0 (shows true).");
        CutInMay y = new CutInMay();
        Check.due("kind 0", y.unseen(0, false) * 10 + y.unseen(0, true), 0);
        Check.due("kind 9", y.unseen(9, false) * 10 + y.unseen(9, true), 0);
        y.sight(9, 0, 0, 1, 1, 0);
        Check.due("kind 9", y.unseen(9, false) * 10 + y.unseen(9, true), 100);
        Check.says("39", "NONE for others.");
        int[] wrong = {-1, 10, -2, Integer.MIN_VALUE, Integer.MAX_VALUE};
        for (int kind : wrong) Check.due("kind " + kind, y.unseen(kind, false) + y.unseen(kind, true), -2);
    }

    private static void measures() {
        Check.says("IV", "MEASURES (8 at most; told): that a block had MELTED m (0 .. 100) by a DAY d (0 .. 999)");
        CutInMay x = new CutInMay();
        int[][] right = {{0, 0}, {999, 100}, {0, 100}, {999, 0}, {5, 5}, {5, 5}, {6, 6}, {7, 7}};
        for (int i = 0; i < 8; i++) Check.due("measure " + i, x.measure(right[i][0], right[i][1]), i + 1);
        Check.refused(x, "a ninth", () -> x.measure(1, 1), -2);
        Check.says("40", "A MEASURE: how many there are (day NONE: none any more).");
        Check.due("none any more, whatever else is told", x.measure(-1, 101), 0);
        Check.due("none of none", x.measure(-1, 0), 0);
        Check.due("anew", x.measure(0, 0), 1);
        Check.says("40", "-2 for others, or if there are 8.");
        int[][] wrong = {{-2, 0}, {1000, 0}, {0, -1}, {0, 101}, {Integer.MIN_VALUE, 0}, {Integer.MAX_VALUE, 0}, {0, Integer.MIN_VALUE},
            {0, Integer.MAX_VALUE}};
        Check.still(x, () -> {
            for (int[] w : wrong) Check.due("others", x.measure(w[0], w[1]), -2);
        });
        for (int i = 2; i <= 8; i++) x.measure(1, 1);
        Check.refused(x, "there are 8", () -> x.measure(1, 1), -2);
    }

    private static void speeds(CutInMay x, int... due) {
        for (int what = 0; what < 4; what++) Check.due("speed " + what, x.speed(what), due[what]);
    }

    private static void speed() {
        Check.says("IV", "SPEED: the greatest MELTED a DAY between any two of unlike DAYS (the later less the earlier one), the least; "
                + "in lowest terms (with its sign); none.");
        CutInMay x = new CutInMay();
        speeds(x, NO_NUMBER, NO_NUMBER, NO_NUMBER, NO_NUMBER);
        x.measure(4, 10);
        speeds(x, NO_NUMBER, NO_NUMBER, NO_NUMBER, NO_NUMBER);
        x.measure(4, 90);
        speeds(x, NO_NUMBER, NO_NUMBER, NO_NUMBER, NO_NUMBER);
        x.measure(-1, 0);
        x.measure(999, 100);
        x.measure(0, 0);
        speeds(x, 100, 999, 100, 999);
        x.measure(-1, 0);
        x.measure(999, 0);
        x.measure(0, 100);
        speeds(x, -100, 999, -100, 999);
        x.measure(-1, 0);
        x.measure(3, 50);
        x.measure(7, 50);
        speeds(x, 0, 1, 0, 1);
        x.measure(5, 44);
        speeds(x, 3, 1, -3, 1);
        x.measure(11, 56);
        speeds(x, 3, 1, -3, 1);
        x.measure(-1, 0);
        x.measure(10, 10);
        x.measure(14, 16);
        x.measure(20, 40);
        // 6 in 4, 24 in 6, 30 in 10.
        speeds(x, 4, 1, 3, 2);
        x.measure(19, 100);
        speeds(x, 84, 5, -60, 1);
        x.measure(-1, 0);
        x.measure(1, 50);
        x.measure(5, 10);
        x.measure(5, 90);
        speeds(x, 10, 1, -10, 1);
        int[][] near = {{0, 0, 2, 1, 5, 3}, {0, 0, 3, 2, 5, 3}};
        for (int[] n : near) {
            // 1 in 2 and 2 in 3, whichever comes first.
            x.measure(-1, 0);
            for (int i = 0; i < 6; i += 2) x.measure(n[i], n[i + 1]);
            speeds(x, 2, 3, 1, 2);
        }
        Check.says("41", "SPEED: the greatest (0 upper, 1 lower), the least (2 upper, 3 lower).");
        x.measure(-1, 0);
        x.measure(0, 100);
        x.measure(1, 0);
        x.measure(2, 100);
        speeds(x, 100, 1, -100, 1);
        Check.says("41", "-100000: none, and for others.");
        Check.due("what 4", x.speed(4), NO_NUMBER);
        Check.due("what -1", x.speed(-1), NO_NUMBER);
        for (int far : FAR) Check.due("what " + far, x.speed(far), NO_NUMBER);
        x.measure(-1, 0);
        speeds(x, NO_NUMBER, NO_NUMBER, NO_NUMBER, NO_NUMBER);
    }

    /** Blocks side by side that sell for these. */
    private static CutInMay row(int... worth) {
        CutInMay x = Check.pond(worth.length, 2, (1 << (worth.length - 1)) - 1, 0);
        StringBuilder law = new StringBuilder("sells nth (straw+1) of (" + worth[0]);
        for (int i = 1; i < worth.length; i++) law.append(",").append(worth[i]);
        Check.rule(x, law.append(");").toString());
        for (int i = 1; i < worth.length; i++) x.straw(i, i);
        return x;
    }

    private static void sellers(CutInMay x, int more, int end) {
        Check.due("the difference", x.sellers(0), more);
        Check.due("which end", x.sellers(1), end);
    }

    private static void sellers() {
        Check.says("IV", "TWO SELLERS take BLOCKS by turns from either end of all that aren't SOLD (by number, 16 at most: the first 16), each worth sells now");
        CutInMay x = Check.pond(8, 8, 127, 127);
        Check.rule(x, "sells 1+straw*10;");
        x.straw(9, 16);
        sellers(x, 0, 0);
        x.straw(1, 15);
        sellers(x, 10, 1);
        x.sell(0);
        // The 17th is among them now, at the end, and the other takes what lies next to it.
        sellers(x, 80, 1);
        Check.says("IV", "each wants the most: what the first gets by best play less the second; whether it takes the first (0) or the last (1; of like ones the first).");
        sellers(row(5, 5), 0, 0);
        sellers(row(5, 6), 1, 1);
        sellers(row(6, 5), 1, 0);
        sellers(row(1, 9, 2), -6, 0);
        sellers(row(2, 9, 1), -6, 0);
        sellers(row(2, 9, 2), -5, 0);
        sellers(row(3, 9, 1, 2), 7, 1);
        sellers(row(8, 15, 3, 7), 11, 1);
        sellers(row(0, 0, 0, 0, 0, 0), 0, 0);
        Check.says("42", "TWO SELLERS: the difference (what 0), which end (1; 0 first, 1 last).");
        sellers(new CutInMay(), 10, 0);
        Check.says("42", "-100000 for others, and if all are SOLD.");
        CutInMay y = row(4, 5);
        Check.due("what 2", y.sellers(2), NO_NUMBER);
        Check.due("what -1", y.sellers(-1), NO_NUMBER);
        for (int far : FAR) Check.due("what " + far, y.sellers(far), NO_NUMBER);
        y.sell(0);
        sellers(y, 5, 0);
        CutInMay left = row(4, 9);
        sellers(left, 5, 1);
        left.sell(1);
        sellers(left, 4, 0);
        y.sell(1);
        sellers(y, NO_NUMBER, NO_NUMBER);
        CutInMay z = new CutInMay();
        Check.rule(z, "melts 100;sells 3;");
        z.day(1);
        sellers(z, 3, 0);
    }

    private static void strawBest() {
        Check.says("IV", "STRAW BEST: n of STRAW (0 .. 9) more on one BLOCK now (as many as would go on it by 9, from the HEAP or not)");
        CutInMay x = Check.pond(3, 2, 0b11, 0);
        Check.rule(x, "melts 0;sells straw*10;");
        Check.due("n 0: all alike", x.strawBest(0, 1), 0);
        x.straw(9, 0);
        Check.due("none would go on the first", x.strawBest(9, 1), 1);
        x.straw(8, 1);
        Check.due("1 like 1: the lower", x.strawBest(1, 1), 1);
        Check.due("2 on the third", x.strawBest(2, 1), 2);
        x.straw(3, 2);
        Check.due("the heap is empty", x.is(3), 0);
        Check.due("from the heap or not", x.strawBest(9, 1), 2);
        Check.says("IV", "the BLOCK that isn't SOLD by which the PENCE of all that aren't SOLD nor MELTED to 100, behind m DAYS (1 .. 20), FORETOLD, "
                + "are most together; of like ones the lowest; none.");
        CutInMay y = Check.pond(3, 2, 0b11, 0);
        Check.rule(y, "melts 5-straw;sells 9;");
        // In 20 days just a block in straw isn't gone, in 19 none is.
        Check.due("like ones", y.strawBest(1, 20), 0);
        y.straw(1, 0);
        Check.due("the first lasts as it is", y.strawBest(1, 20), 1);
        Check.due("all last 19", y.strawBest(1, 19), 0);
        y.sell(0);
        Check.due("not a sold one", y.strawBest(0, 1), 1);
        y.sell(1);
        y.sell(2);
        Check.due("none", y.strawBest(1, 1), -1);
        CutInMay late = Check.pond(2, 2, 0b1, 0);
        Check.pass(late, 999);
        late.straw(1, 0);
        Check.rule(late, "melts 100;sells straw*straw;");
        Check.due("no day is left to melt it", late.strawBest(1, 20), 0);
        Check.says("43", "STRAW BEST.");
        CutInMay z = Check.pond(2, 2, 0b1, 0);
        Check.rule(z, "melts 3-straw;sells 100-melted;");
        z.straw(1, 0);
        Check.due("what would melt more without", z.strawBest(3, 1), 1);
        Check.due("of like ones the lowest", z.strawBest(2, 1), 0);
        Check.rule(z, "melts 0;sells straw*(8-heat)*nth day of (0,1);");
        // HEAT is 3, 2, 8 behind 1, 2, 3 days.
        int[] best = {0, 1, 0, 1};
        for (int m = 1; m <= 4; m++) Check.due("by DAY and HEAT behind " + m, z.strawBest(9, m), best[m - 1]);
        Check.says("43", "NONE: none, and for others.");
        int[][] wrong = {{-1, 1}, {10, 1}, {0, 0}, {0, 21}, {0, -1}};
        for (int[] w : wrong) Check.due("others", z.strawBest(w[0], w[1]), -1);
        for (int far : FAR) Check.due("far", Math.max(z.strawBest(far, 1), z.strawBest(1, far)), -1);
        Check.rule(z, "melts 5-straw;sells 1;");
        Check.due("the greatest of both", z.strawBest(9, 20), 1);
        z.sell(0);
        z.sell(1);
        Check.due("all are sold", z.strawBest(9, 20), -1);
    }

    private static void melts() {
        Check.says("44", "MELTS told, that a BLOCK (as it is, but STRAW) MELTED so much in one DAY by a HEAT: how many there are (block NONE: none any more).");
        CutInMay x = Check.pond(2, 2, 0b1, 0);
        int[][] right = {{0, 0, 0, 0}, {1, 9, 9, 100}, {0, 9, 0, 100}, {1, 0, 9, 0}, {0, 5, 5, 5}, {0, 5, 5, 5}, {1, 1, 1, 1}, {1, 2, 3, 4}};
        for (int i = 0; i < 8; i++) Check.due("melt " + i, x.melt(right[i][0], right[i][1], right[i][2], right[i][3]), i + 1);
        Check.refused(x, "a ninth", () -> x.melt(0, 0, 0, 0), -2);
        Check.due("none any more, whatever else is told", x.melt(-1, 10, 10, 101), 0);
        Check.due("none of none", x.melt(-1, 0, 0, 0), 0);
        x.sell(1);
        Check.due("of a sold one", x.melt(1, 0, 0, 3), 1);
        Check.says("44", "-2 for others, or if there are 8.");
        int[][] wrong = {{2, 0, 0, 0}, {-2, 0, 0, 0}, {0, -1, 0, 0}, {0, 10, 0, 0}, {0, 0, -1, 0}, {0, 0, 10, 0}, {0, 0, 0, -1}, {0, 0, 0, 101}};
        Check.still(x, () -> {
            for (int[] w : wrong) Check.due("others", x.melt(w[0], w[1], w[2], w[3]), -2);
            for (int far : FAR) Check.due("far", x.melt(far, 0, 0, 0) + x.melt(0, far, 0, 0), -4);
            for (int far : FAR) Check.due("far", x.melt(0, 0, far, 0), -2);
        });
        for (int i = 2; i <= 8; i++) x.melt(0, 0, 0, 0);
        Check.refused(x, "there are 8", () -> x.melt(0, 0, 0, 0), -2);
    }

    private static void whoseLaw() {
        Check.says("IV", "WHOSE LAW: TEXTS (bits) by whose melts all MELTS told (8 at most: of a BLOCK, by a HEAT, a STRAW, so much in a DAY) are so.");
        CutInMay x = Check.pond(2, 2, 0b1, 0);
        Check.due("no texts", x.whoseLaw(), 0);
        Check.say(x, "melts heat-straw;");
        Check.say(x, "melts heat+3-straw;");
        Check.say(x, "melts 5;");
        Check.say(x, "sells 5;");
        Check.due("none told: all", x.whoseLaw(), 15);
        x.melt(0, 5, 0, 5);
        Check.due("5 by heat 5", x.whoseLaw(), 0b0101);
        x.melt(1, 9, 2, 7);
        Check.due("7 by heat 9 in 2 of straw", x.whoseLaw(), 0b0001);
        x.melt(1, 9, 2, 8);
        Check.due("both can't be", x.whoseLaw(), 0);
        x.melt(-1, 0, 0, 0);
        for (int i = 0; i < 7; i++) x.melt(0, 2, 0, 5);
        Check.due("seven", x.whoseLaw(), 0b1110);
        x.melt(0, 3, 0, 6);
        Check.due("the eighth counts", x.whoseLaw(), 0b1010);
        Check.says("45", "WHOSE LAW (bits): TEXTS by whose melts all MELTS told are so (DAY, MELTED as now; without a law as ever).");
        CutInMay y = Check.pond(2, 2, 0b1, 0);
        Check.say(y, "melts day*10+melted;");
        Check.say(y, "rots 9;");
        y.straw(3, 0);
        y.melt(0, 9, 0, 0);
        Check.due("DAY 0, nothing melted", y.whoseLaw(), 1);
        y.melt(-1, 0, 0, 0);
        y.melt(0, 9, 9, 3);
        Check.due("as ever: 9 and 3 less 9, not its own straw", y.whoseLaw(), 2);
        y.melt(-1, 0, 0, 0);
        y.melt(0, 0, 9, 0);
        Check.due("held at 0", y.whoseLaw(), 3);
        y.day(1);
        Check.due("DAY is 1 now", y.whoseLaw(), 2);
        y.melt(-1, 0, 0, 0);
        // The HEAT of that day was 0, and block 1 has EDGE 3.
        y.melt(1, 0, 0, 13);
        Check.due("10 and MELTED 3", y.whoseLaw(), 1);
        Check.due("whichever rules", y.by(1) ? y.whoseLaw() : -1, 1);
        CutInMay z = new CutInMay();
        Check.say(z, "melts 9999;");
        z.melt(0, 0, 0, 100);
        Check.due("held at 100", z.whoseLaw(), 1);
    }

    /** A summer over blocks in which nothing melts and each sells for a penny, told by the document's words. */
    private static String penniesOf(CutInMay x, int seed, int n, int blocks) {
        int[] straw = new int[blocks];
        boolean[] sold = new boolean[blocks];
        int heap = x.is(3);
        int day = x.is(0);
        int heat = x.is(1);
        int pence = x.is(2);
        int drawing = seed * 3 + 73;
        for (int i = 0; i < n; i++) {
            int drawn = drawing;
            drawing = (drawing * 281 + 179) % 30293;
            int block = drawn % blocks;
            if (drawn % 4 == 0) {
                if (!sold[block] && straw[block] < 9 && heap > 0) {
                    straw[block]++;
                    heap--;
                }
            } else if (drawn % 4 == 1) {
                if (!sold[block]) {
                    sold[block] = true;
                    heap += straw[block];
                    straw[block] = 0;
                    pence++;
                }
            } else if (day < 999) {
                day++;
                heat = drawing % 10;
                drawing = (drawing * 281 + 179) % 30293;
            }
        }
        StringBuilder told = new StringBuilder(day + " " + heat + " " + pence + " " + heap + " " + drawing);
        for (int block = 0; block < blocks; block++) told.append(" ").append(straw[block]).append(sold[block] ? "s" : "");
        return told.toString();
    }

    private static String seen(CutInMay x) {
        StringBuilder told = new StringBuilder(x.is(0) + " " + x.is(1) + " " + x.is(2) + " " + x.is(3) + " " + x.is(4));
        for (int block = 0; block < x.is(9); block++) told.append(" ").append(x.block(block, 4)).append(x.block(block, 6) == 1 ? "s" : "");
        return told.toString();
    }

    private static void summer() {
        Check.says("V", "A SUMMER by a SEED: X is SEED (0 .. 9999) * 3 + 73; n times (1 .. 40)");
        CutInMay x = new CutInMay();
        Check.due("seed 0: 73 mod 4 is 1, so it is sold", x.summer(0, 1), 10);
        Check.due("X", x.is(4), 20692);
        CutInMay y = new CutInMay();
        y.summer(9999, 1);
        Check.due("seed 9999: 30070 mod 4 is 2, so a day by 28395", y.is(0) * 10 + y.is(1), 15);
        Check.due("X", y.is(4), 12115);
        Check.refused(y, "seed 10000", () -> y.summer(10000, 1), -1);
        Check.refused(y, "41 times", () -> y.summer(0, 41), -1);
        Check.refused(y, "no times", () -> y.summer(0, 0), -1);
        Check.says("V", "x is X, X anew (as in a draw): x mod 4: 0 LAID 1 on BLOCK x mod how many there are (if it can be)");
        CutInMay z = Check.pond(3, 2, 0b11, 0);
        z.summer(1, 1);
        Check.due("seed 1: 76 mod 4 is 0, mod 3 is 1", z.block(1, 4) * 100 + z.is(3), 119);
        z.straw(8, 1);
        z.summer(1, 1);
        Check.due("9 at most", z.block(1, 4) * 100 + z.is(3), 911);
        z.sell(1);
        z.summer(1, 1);
        Check.due("not on a sold one", z.block(1, 4) * 100 + z.is(3), 20);
        Check.says("V", "1 that BLOCK is SOLD (if it can be)");
        CutInMay s = Check.pond(3, 2, 0b11, 0);
        Check.due("73 mod 3 is 1", s.summer(0, 1), 20);
        Check.due("sold", s.block(1, 6), 1);
        Check.due("again it can't be", s.summer(0, 1), 20);
        CutInMay gone = new CutInMay();
        Check.rule(gone, "melts 100;sells 5;");
        gone.day(1);
        Check.due("nor one that is gone", gone.summer(0, 1) * 10 + gone.block(0, 6), 0);
        manySummers();
        Check.says("V", "else a DAY (999 stays: nothing).");
        CutInMay d = new CutInMay();
        d.summer(2, 1);
        Check.due("79 mod 4 is 3: a day by 22378", d.is(0) * 10 + d.is(1), 18);
        Check.due("X behind two draws", d.is(4), 17746);
        Check.due("82 mod 4 is 2: a day", d.summer(3, 1) * 10 + d.is(0), 2);
        CutInMay late = new CutInMay();
        Check.pass(late, 999);
        int heat = late.is(1);
        late.summer(2, 1);
        Check.due("999 stays", late.is(0), 999);
        Check.due("HEAT, MELTED stay", late.is(1) * 1000 + late.block(0, 5), heat * 1000);
        Check.due("X behind one draw", late.is(4), 22378);
        Check.says("V", "It is one STEP: PENCE.");
        CutInMay one = Check.pond(4, 4, 0b111, 0b111);
        String before = seen(one);
        one.summer(77, 40);
        Check.due("six lines and one", one.about(3), 7);
        Check.due("one undo", one.undo(), 6);
        Check.due("all is as ahead of it", seen(one).equals(before), true);
        Check.due("without PENCE it is a step as well", late.about(3), 30);
    }

    private static void manySummers() {
        for (int seed = 0; seed < 400; seed++) {
            int blocks = 1 + seed % 4;
            CutInMay x = blocks == 1 ? new CutInMay() : Check.pond(blocks, 2, (1 << (blocks - 1)) - 1, 0);
            if (seed % 5 == 0) Check.pass(x, 990);
            Check.rule(x, "melts 0;sells 1;");
            String due = penniesOf(x, seed * 25 % 10000, 1 + seed % 40, blocks);
            x.summer(seed * 25 % 10000, 1 + seed % 40);
            Check.due("summer of " + seed * 25 % 10000 + " is " + seen(x) + ", due " + due, seen(x).equals(due), true);
        }
    }

    private static void image() {
        Check.says("46", "THE IMAGE is as all is now: DAY.");
        CutInMay x = Check.pond(4, 3, 0b010, 0b01);
        Check.rule(x, "melts 2;sells straw;");
        x.sight(1, 0, 0, 2, 1, 1);
        x.straw(5, 2);
        x.day(4);
        x.sell(1);
        x.order(1, 2, 3);
        x.glass(1, 2, 3, true);
        x.bid(8);
        x.measure(1, 2);
        x.measure(2, 9);
        x.melt(0, 1, 2, 2);
        String before = Check.sketch(x) + seen(x);
        Check.due("DAY", x.image(), 4);
        Check.due("it changes nothing", before.equals(Check.sketch(x) + seen(x)), true);
        change(x);
        Check.says("V", "BACK: all is so again.");
        x.back();
        same(x, before);
        change(x);
        Check.says("47", "BACK to THE IMAGE (it stays): DAY.");
        Check.due("DAY", x.back(), 4);
        same(x, before);
        Check.due("glass, bid, measure, melt", x.layers(1, 2) * 100 + x.auction(0) * 10 + x.speed(0), 107);
        Check.due("by whose law", x.whoseLaw(), 1);
        Check.due("the steps of the image", x.undo(), 7);
        Check.due("its last was a sale", x.block(1, 6), 0);
        Check.due("it stays", x.back(), 4);
        Check.due("the sale is in it", x.block(1, 6), 1);
        tapeAndFault();
        texts();
    }

    private static void same(CutInMay x, String before) {
        String behind = Check.sketch(x) + seen(x);
        Check.due("all is so again: " + before + " is " + behind, before.equals(behind), true);
    }

    /** Something of everything changes. */
    private static void change(CutInMay x) {
        x.day(9);
        x.straw(1, 0);
        x.sell(2);
        x.summer(5, 9);
        x.sight(2, 0, 0, 1, 1, 1);
        Check.rule(x, "melts 7;");
        x.order(-1, 0, 0);
        x.glass(1, 2, 3, false);
        x.bid(9);
        x.measure(-1, 0);
        x.melt(-1, 0, 0, 0);
        for (int i = 0; i < 30; i++) x.straw(i % 2 == 0 ? 1 : -1, 0);
    }

    private static void tapeAndFault() {
        Check.says("V", "AN IMAGE: all as it is, but the tape and the latest FAULT.");
        CutInMay x = new CutInMay();
        Check.say(x, "  foo");
        Check.put(x, "saw 1;");
        x.image();
        Check.due("the tape stays with the image made", x.about(9), 6);
        Check.say(x, "saw 9;");
        Check.put(x, "day");
        x.back();
        Check.due("the tape is as it was ahead of back", x.about(9), 3);
        Check.due("and so is the latest fault", x.fault(0) * 100 + x.fault(1), 204);
        CutInMay z = new CutInMay();
        Check.pass(z, 999);
        Check.due("DAY 999", z.image(), 999);
        z.undo();
        Check.due("DAY 999", z.back(), 999);
        Check.due("30 steps again", z.about(3), 30);
    }

    private static void texts() {
        CutInMay y = new CutInMay();
        Check.say(y, "melts 1;");
        y.image();
        Check.say(y, "melts 2;");
        Check.say(y, "melts 3;");
        y.by(2);
        y.back();
        Check.due("the texts of the image", y.about(1) * 10 + y.about(2), 9);
        Check.due("text 1 is no more", y.by(1), false);
        Check.due("its number is given anew", Check.say(y, "melts 4;"), 1);
        y.by(1);
        Check.due("by the new one", y.block(0, 9), 4);
        y.image();
        y.day(3);
        Check.due("the latest image alone", y.back() * 10 + y.about(1), 2);
    }

    private static void about() {
        Check.says("48", "0 SIGHTS, 1 TEXTS, 2 THE TEXT (NONE), 3 STEPS that can be taken back, 4 ORDERS, 5 GLASSES, 6 BIDS, 7 MEASURES, "
                + "8 MELTS told, 9 bytes of the tape.");
        CutInMay x = new CutInMay();
        int[] none = {0, 0, -1, 0, 0, 0, 0, 0, 0, 0};
        for (int what = 0; what < 10; what++) Check.due("about " + what, x.about(what), none[what]);
        for (int i = 0; i < 12; i++) x.sight(0, 0, 0, 1, 1, 0);
        for (int i = 0; i < 4; i++) x.text();
        x.by(3);
        x.day(40);
        for (int i = 0; i < 8; i++) {
            x.order(0, 0, 1);
            x.glass(0, 0, 0, true);
            x.bid(0);
            x.measure(0, 0);
            x.melt(0, 0, 0, 0);
        }
        for (int i = 0; i < 15; i++) x.feed(0, 0, 0, 0, 0);
        int[] full = {12, 4, 3, 30, 5, 8, 8, 8, 8, 300};
        for (int what = 0; what < 10; what++) Check.due("about " + what, x.about(what), full[what]);
        Check.says("48", "-2 for others.");
        Check.due("about 10", x.about(10), -2);
        Check.due("about -1", x.about(-1), -2);
        for (int far : FAR) Check.due("about " + far, x.about(far), -2);
        Check.says("V", "The constants: `NONE = -1`: None.");
        Check.due("NONE", CutInMay.NONE, -1);
    }
}
