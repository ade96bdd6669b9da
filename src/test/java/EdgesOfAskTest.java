/** The document's words on what can be asked, each with its edges: part III, promises 21 to 34. */
public final class EdgesOfAskTest {
    private static final int[] FAR = {Integer.MIN_VALUE, -65, -2, 64, 100, Integer.MAX_VALUE};

    public static void main(String[] args) {
        changesNothing();
        whole();
        sawing();
        foretold();
        showsIn();
        dearest();
        together();
        cells();
        lasts();
        sellFirst();
        orders();
        served();
        lowest();
        glasses();
        Check.finish();
    }

    private static void changesNothing() {
        Check.says("III", "All that follows changes nothing.");
        CutInMay x = Check.pond(4, 3, 0b010, 0b01);
        Check.rule(x, "melts heat+5-straw;rots 1;sells size*kinds+straw;");
        x.sight(1, 0, 0, 2, 1, 1);
        x.sight(2, 1, 0, 2, 2, 0);
        x.straw(5, 0);
        x.day(2);
        x.order(1, 5, 9);
        x.glass(1, 1, 1, true);
        x.bid(5);
        x.measure(1, 1);
        x.measure(2, 2);
        x.melt(0, 1, 1, 1);
        Check.still(x, () -> {
            x.whole();
            for (int what = 0; what < 3; what++) x.sawing(3, 1, what);
            x.foretold(60, 0);
            x.foretold(60, -1);
            x.showsIn(0);
            x.dearest(0);
            x.together(0);
            x.ice(true);
            x.gone();
            x.litter();
            x.lasts(0, 4, true);
            x.sellFirst(4);
            x.served(-1);
            x.layers(1, 1);
        });
        Check.still(x, () -> {
            x.auction(1);
            x.lies(0);
            x.kiss(1, 0, true);
            x.unseen(1, false);
            x.unseen(1, true);
            x.speed(0);
            x.sellers(1);
            x.strawBest(9, 20);
            x.whoseLaw();
            for (int what = 0; what < 11; what++) x.block(0, what);
            for (int what = 0; what < 8; what++) x.ofSight(0, what);
        });
        Check.due("X", x.is(4), 28668);
        Check.due("block 0", x.block(0, 4) * 100 + x.block(0, 5), 304);
    }

    private static void whole() {
        Check.says("III", "WHOLE: SIGHTS (bits) with no SAWN LINE through them.");
        CutInMay x = Check.pond(5, 5, 0, 0);
        x.sight(0, 1, 1, 3, 3, 0);
        x.sight(0, 1, 1, 1, 1, 0);
        x.sight(0, 3, 0, 2, 1, 0);
        x.sight(0, 0, 3, 1, 2, 0);
        Check.due("no line", x.whole(), 15);
        x.saw(0, true);
        x.saw(0, false);
        Check.due("lines at its left and upper side", x.whole(), 15);
        x.saw(3, true);
        Check.due("at its right side, and through the third", x.whole(), 11);
        x.saw(3, false);
        Check.due("at its lower side, and through the fourth", x.whole(), 3);
        x.saw(2, true);
        Check.due("through the first", x.whole(), 2);
        x.saw(1, true);
        x.saw(1, false);
        Check.due("one cell has none through it", x.whole(), 2);
    }

    private static void sawing(CutInMay x, int sights, int m, int... due) {
        for (int what = 0; what < 3; what++) {
            Check.due("sawing " + sights + ", " + m + ", " + what, x.sawing(sights, m, what), due[what]);
        }
    }

    private static void sawing() {
        Check.says("III", "SAWING: sets of upright and level LINES by which a told set of SIGHTS is WHOLE, "
                + "each room m cells at least (1 .. 64): the most rooms");
        CutInMay x = Check.pond(8, 8, 0, 0);
        sawing(x, 0, 1, 64, 127, 127);
        sawing(x, 0, 2, 32, 42, 127);
        sawing(x, 0, 4, 16, 8, 127);
        sawing(x, 0, 33, 1, 0, 0);
        sawing(x, 0, 64, 1, 0, 0);
        x.sight(0, 0, 0, 3, 1, 0);
        x.sight(0, 7, 5, 1, 3, 0);
        sawing(x, 1, 1, 48, 124, 127);
        sawing(x, 2, 1, 48, 127, 31);
        sawing(x, 3, 1, 36, 124, 31);
        x.saw(0, true);
        x.straw(1, 0);
        sawing(x, 3, 1, 36, 124, 31);
        Check.says("III", "of like ones the lowest upright set, then level one: how many, the sets; none.");
        sawing(x, 0, 32, 2, 0, 8);
        sawing(x, 0, 16, 4, 0, 42);
        CutInMay y = Check.pond(3, 3, 0, 0);
        sawing(y, 0, 2, 3, 0, 3);
        sawing(y, 0, 4, 1, 0, 0);
        sawing(y, 0, 3, 3, 0, 3);
        CutInMay w = Check.pond(5, 2, 0, 0);
        sawing(w, 0, 4, 2, 0, 1);
        w.sight(0, 0, 0, 1, 2, 0);
        sawing(w, 1, 4, 2, 2, 0);
        CutInMay h = Check.pond(2, 5, 0, 0);
        sawing(h, 0, 4, 2, 0, 2);
        sawing(y, 0, 9, 1, 0, 0);
        sawing(y, 0, 10, -1, -1, -1);
        sawing(y, 0, 64, -1, -1, -1);
        sawing(new CutInMay(), 0, 1, 1, 0, 0);
        sawing(new CutInMay(), 0, 2, -1, -1, -1);
        Check.says("21", "SAWING: how many rooms (what 0), the upright set (1), the level one (2).");
        CutInMay z = Check.pond(2, 3, 0, 0);
        sawing(z, 0, 1, 6, 1, 3);
        Check.says("21", "NONE: none, and for others.");
        sawing(z, 0, 7, -1, -1, -1);
        sawing(z, 0, 0, -1, -1, -1);
        sawing(z, 0, 65, -1, -1, -1);
        sawing(z, 1, 1, -1, -1, -1);
        sawing(z, -1, 1, -1, -1, -1);
        Check.due("what 3", z.sawing(0, 1, 3), -1);
        Check.due("what -1", z.sawing(0, 1, -1), -1);
        for (int far : FAR) {
            Check.due("sights " + far, z.sawing(far, 1, 0), -1);
            Check.due("m " + far, z.sawing(0, far, 0), -1);
            Check.due("what " + far, z.sawing(0, 1, far), -1);
        }
        for (int i = 0; i < 12; i++) z.sight(0, 0, 0, 2, 3, 0);
        sawing(z, 4095, 1, 1, 0, 0);
        sawing(z, 4096, 1, -1, -1, -1);
    }

    private static void foretold() {
        Check.says("III", "FORETOLD behind n DAYS (1 .. 60; 999 bounds it as ever), nothing being done: MELTED of a BLOCK, SIGHTS (bits) that SHOW.");
        CutInMay x = Check.pond(4, 2, 0b010, 0);
        x.sight(0, 1, 0, 2, 1, 2);
        x.sight(0, 0, 0, 1, 1, 0);
        x.straw(9, 0);
        Check.rule(x, "melts 10-straw;rots heat/3;");
        // HEAT comes as 3, 2, 8, 2: STRAW of block 0 is 9, 8, 8, 6, 6, and it melts by 1, 2, 2, 4.
        int[] melted = {1, 3, 5, 9};
        for (int n = 1; n <= 4; n++) Check.due("block 0 behind " + n, x.foretold(n, 0), melted[n - 1]);
        Check.due("block 1 behind 2", x.foretold(2, 1), 20);
        Check.due("sights behind 1", x.foretold(1, -1), 2);
        Check.due("sights behind 2: 20 is not more", x.foretold(2, -1), 2);
        Check.due("sights behind 3", x.foretold(3, -1), 3);
        Check.due("100 at most", x.foretold(60, 1), 100);
        x.sell(1);
        Check.due("a sold one", x.foretold(60, 1), 0);
        x.day(4);
        Check.due("as was foretold", x.block(0, 5), 9);
        CutInMay y = new CutInMay();
        y.sight(0, 0, 0, 1, 1, 0);
        Check.pass(y, 997);
        Check.rule(y, "melts 1;");
        int[] days = {1, 2, 3, 60};
        int[] then = {1, 2, 2, 2};
        for (int i = 0; i < days.length; i++) Check.due("by 999, behind " + days[i], y.foretold(days[i], 0), then[i]);
        y.by(0);
        y.day(2);
        y.by(1);
        Check.due("999: no day is left", y.foretold(60, 0), 0);
        Check.due("999: nothing shows", y.foretold(60, -1), 0);
        Check.says("22", "FORETOLD: MELTED of a BLOCK; SIGHTS that SHOW (block NONE; bits).");
        CutInMay z = new CutInMay();
        Check.due("no sights", z.foretold(1, -1), 0);
        Check.due("the least", z.foretold(1, 0), 4);
        for (int i = 0; i < 12; i++) z.sight(0, 0, 0, 1, 1, 0);
        Check.due("all twelve", z.foretold(60, -1), 4095);
        Check.says("22", "NONE for others.");
        int[] others = {0, -1, 61, Integer.MIN_VALUE, Integer.MAX_VALUE};
        for (int n : others) Check.due("behind " + n, Math.max(z.foretold(n, 0), z.foretold(n, -1)), -1);
        for (int far : FAR) Check.due("block " + far, z.foretold(1, far), -1);
        Check.due("block 1 of one", z.foretold(1, 1), -1);
    }

    private static void showsIn() {
        Check.says("III", "SHOWS IN: in how many DAYS (60 at most, FORETOLD) a SIGHT first SHOWS (0: it does; none).");
        CutInMay x = Check.pond(4, 2, 0b010, 0);
        x.sight(0, 0, 0, 1, 1, 6);
        x.sight(0, 0, 0, 3, 1, 5);
        x.sight(0, 3, 0, 1, 1, 0);
        x.straw(1, 0);
        Check.rule(x, "melts 1-straw;");
        Check.due("never, in straw", x.showsIn(0), -1);
        Check.due("51 of the other block", x.showsIn(1), 51);
        Check.due("at once", x.showsIn(2), 1);
        x.straw(-1, 0);
        Check.due("61 is too late", x.showsIn(0), -1);
        x.day(1);
        Check.due("60", x.showsIn(0), 60);
        Check.due("it does", x.showsIn(2), 0);
        x.sell(0);
        Check.due("sold, it melts no more", x.showsIn(0), -1);
        x.sell(1);
        Check.due("sold, it shows", x.showsIn(2), 0);
        CutInMay y = new CutInMay();
        y.sight(0, 0, 0, 1, 1, 0);
        y.sight(0, 0, 0, 1, 1, 1);
        Check.pass(y, 990);
        Check.rule(y, "melts 1;");
        Check.due("in 1", y.showsIn(0), 1);
        Check.due("11 are too many by 999", y.showsIn(1), -1);
        Check.says("23", "SHOWS IN.");
        Check.rule(y, "melts 11;");
        Check.due("both at once", y.showsIn(0) * 10 + y.showsIn(1), 11);
        Check.says("23", "NONE: none, and for others.");
        Check.rule(y, "melts 0;");
        Check.due("none", y.showsIn(0), -1);
        Check.due("sight 2 of two", y.showsIn(2), -1);
        Check.due("sight -1", y.showsIn(-1), -1);
        for (int far : FAR) Check.due("sight " + far, y.showsIn(far), -1);
    }

    private static void dearest() {
        Check.says("III", "DEAREST: BLOCKS that can be SOLD, by sells now, the greatest first, of like ones the lowest: the i-th.");
        CutInMay x = Check.pond(8, 2, 0b0010110, 0);
        // 4, 2, 4 and 6 cells.
        int[] due = {3, 0, 2, 1, -1};
        for (int i = 0; i < due.length; i++) Check.due("the " + i + "-th", x.dearest(i), due[i]);
        x.sell(0);
        Check.due("a sold one can't be", x.dearest(1), 2);
        Check.rule(x, "melts nth (size-2) of (100,0);sells 9-size;");
        x.day(1);
        Check.due("one that is gone can't be", x.dearest(0), 2);
        Check.due("nor be the next", x.dearest(1), 3);
        Check.due("two are left", x.dearest(2), -1);
        Check.rule(x, "sells 0;");
        Check.due("for nothing, too", x.dearest(0) * 10 + x.dearest(1), 23);
        Check.says("24", "DEAREST.");
        CutInMay y = Check.pond(8, 8, 127, 127);
        Check.due("the first of 64 like ones", y.dearest(0), 0);
        Check.due("the last", y.dearest(63), 63);
        Check.says("24", "NONE: there is none such.");
        Check.due("the 64-th of 64", y.dearest(64), -1);
        Check.due("below", y.dearest(-1), -1);
        for (int far : FAR) Check.due("the " + far + "-th", y.dearest(far), -1);
        CutInMay z = new CutInMay();
        z.sell(0);
        Check.due("all are sold", z.dearest(0), -1);
    }

    private static void together() {
        Check.says("III", "TOGETHER: twos of SIGHTS of unlike KINDS that both have a cell in a BLOCK and lie in one LAYER.");
        CutInMay x = Check.pond(4, 2, 0b010, 0);
        x.sight(1, 0, 0, 1, 1, 3);
        Check.due("one alone", x.together(0), 0);
        x.sight(1, 1, 0, 1, 1, 3);
        Check.due("of one kind", x.together(0), 0);
        x.sight(2, 0, 0, 1, 1, 4);
        Check.due("in unlike layers", x.together(0), 0);
        x.sight(2, 2, 0, 1, 1, 3);
        Check.due("the other is in another block", x.together(0), 0);
        x.sight(3, 1, 0, 2, 1, 3);
        Check.due("with a cell in both", x.together(0) * 10 + x.together(1), 21);
        Check.says("25", "TOGETHER: how many twos.");
        CutInMay y = new CutInMay();
        Check.due("none", y.together(0), 0);
        for (int i = 0; i < 12; i++) y.sight(i % 10, 0, 0, 1, 1, 9);
        // 66 twos, of which kinds 0 and 1 have a like one each.
        Check.due("of twelve", y.together(0), 64);
        Check.says("25", "NONE for others.");
        Check.due("block 1 of one", y.together(1), -1);
        Check.due("block -1", y.together(-1), -1);
        for (int far : FAR) Check.due("block " + far, y.together(far), -1);
    }

    private static void cells() {
        Check.says("III", "CELLS of all BLOCKS that are SOLD, or that aren't.");
        CutInMay x = Check.pond(8, 8, 0b1, 0);
        Check.due("all", x.ice(false) * 100 + x.ice(true), 6400);
        x.sell(0);
        Check.due("some", x.ice(false) * 100 + x.ice(true), 5608);
        x.sell(1);
        Check.due("none", x.ice(false) * 100 + x.ice(true), 64);
        Check.says("26", "CELLS.");
        Check.due("one cell", new CutInMay().ice(false), 1);
        Check.due("none of it sold", new CutInMay().ice(true), 0);
        Check.says("III", "GONE: how many BLOCKS have MELTED to 100.");
        CutInMay y = Check.pond(3, 2, 0b11, 0);
        Check.due("none", y.gone(), 0);
        y.sell(0);
        y.straw(1, 2);
        Check.rule(y, "melts 100-straw;");
        y.day(1);
        Check.due("not the sold one, not that of 99", y.gone(), 1);
        y.day(1);
        Check.due("two", y.gone(), 2);
        Check.due("they aren't sold", y.ice(false), 4);
        Check.says("27", "GONE.");
        CutInMay all = Check.pond(8, 8, 127, 127);
        Check.rule(all, "melts 100;");
        all.day(1);
        Check.due("all 64", all.gone(), 64);
        Check.says("III", "LITTER: all STRAW on BLOCKS together.");
        CutInMay z = Check.pond(3, 2, 0b11, 0);
        Check.due("none", z.litter(), 0);
        z.straw(9, 0);
        z.straw(9, 1);
        z.straw(2, 2);
        Check.due("all there is", z.litter(), 20);
        z.sell(1);
        Check.due("not of a sold one", z.litter(), 11);
        Check.rule(z, "melts 100;rots 1;");
        z.day(1);
        Check.due("of those that are gone", z.litter(), 9);
        Check.says("28", "LITTER.");
        CutInMay last = Check.pond(8, 8, 127, 127);
        last.straw(1, 0);
        last.straw(9, 63);
        Check.due("of the first and the last of 64", last.litter(), 10);
        last.undo();
        Check.due("taken back", last.litter(), 1);
    }

    private static void odds(CutInMay x, int block, int n, long upper, long lower) {
        Check.due("lasts " + block + ", " + n + ", upper", x.lasts(block, n, false), upper);
        Check.due("lasts " + block + ", " + n + ", lower", x.lasts(block, n, true), lower);
    }

    private static void lasts() {
        Check.says("III", "LASTS: the ODDS that a BLOCK, as it is now, hasn't MELTED to 100 behind n DAYS (0 .. 4)");
        CutInMay x = new CutInMay();
        Check.rule(x, "melts 33;");
        for (int n = 0; n < 4; n++) odds(x, 0, n, 1, 1);
        odds(x, 0, 4, 0, 1);
        x.day(1);
        odds(x, 0, 2, 1, 1);
        odds(x, 0, 3, 0, 1);
        x.day(3);
        for (int n = 0; n < 5; n++) odds(x, 0, n, 0, 1);
        Check.says("III", "the HEAT of the first being as now, of each further one 0 .. 9 alike likely");
        CutInMay y = new CutInMay();
        Check.rule(y, "melts heat*100;");
        int[] lower = {1, 1, 10, 100, 1000};
        for (int n = 0; n < 5; n++) odds(y, 0, n, 1, lower[n]);
        Check.rule(y, "melts heat*12;");
        // One further day never melts it; of two 0 + 0 .. 8 + 0 last; of three those whose sum is 8 at most.
        odds(y, 0, 2, 9, 10);
        odds(y, 0, 3, 9, 20);
        odds(y, 0, 4, 33, 200);
        y.day(1);
        Check.rule(y, "melts heat*34;");
        odds(y, 0, 0, 1, 1);
        odds(y, 0, 1, 0, 1);
        Check.says("III", "its STRAW getting less by rots (DAY going on as ever, beyond 999 as well): in lowest terms.");
        CutInMay z = new CutInMay();
        z.straw(1, 0);
        Check.rule(z, "melts 60-straw*60;rots nth (heat-3) of (0,1);");
        // Half of the heats rot it: it melts on that day and on all later ones, and is gone by the second of these.
        odds(z, 0, 1, 1, 1);
        odds(z, 0, 2, 1, 1);
        odds(z, 0, 3, 1, 2);
        odds(z, 0, 4, 1, 4);
        CutInMay deep = new CutInMay();
        deep.straw(9, 0);
        Check.rule(deep, "melts 50-straw*5;");
        odds(deep, 0, 4, 1, 1);
        CutInMay wide = new CutInMay();
        Check.rule(wide, "melts nth (day+1) of (0,heat,heat*10,1);");
        // Behind three days it has melted to 0 .. 99, each alike likely; the fourth takes 1 more.
        odds(wide, 0, 3, 1, 1);
        odds(wide, 0, 4, 99, 100);
        Check.rule(wide, "melts day*100;");
        odds(wide, 0, 1, 1, 1);
        odds(wide, 0, 2, 0, 1);
        CutInMay late = new CutInMay();
        Check.pass(late, 999);
        late.straw(1, 0);
        Check.rule(late, "melts (day-999)*50;");
        odds(late, 0, 1, 1, 1);
        odds(late, 0, 2, 1, 1);
        odds(late, 0, 3, 0, 1);
        Check.rule(late, "melts 60-straw*60;rots day-1000;");
        odds(late, 0, 3, 1, 1);
        odds(late, 0, 4, 0, 1);
        lastsCall();
    }

    private static void lastsCall() {
        Check.says("29", "LASTS: the upper (low false), the lower one (low true).");
        CutInMay x = Check.pond(8, 8, 127, 127);
        odds(x, 63, 4, 1, 1);
        x.sell(63);
        Check.rule(x, "melts 100;");
        odds(x, 62, 1, 0, 1);
        odds(x, 63, 4, 1, 1);
        Check.says("29", "NONE for others.");
        int[][] wrong = {{64, 1}, {-1, 1}, {0, 5}, {0, -1}};
        for (int[] w : wrong) odds(x, w[0], w[1], -1, -1);
        for (int far : FAR) {
            odds(x, far, 1, -1, -1);
            odds(x, 0, far, -1, -1);
        }
        odds(new CutInMay(), 1, 0, -1, -1);
    }

    private static void sellFirst() {
        Check.says("III", "SELL FIRST: of those that aren't SOLD nor MELTED to 100 the one least likely to last n DAYS; of like ones the lowest; none.");
        CutInMay x = Check.pond(4, 2, 0b111, 0);
        x.straw(2, 0);
        x.straw(1, 2);
        Check.rule(x, "melts 10+heat*12-straw*9;");
        Check.due("0 days: all alike", x.sellFirst(0), 0);
        Check.due("1 day: all last", x.sellFirst(1), 0);
        Check.due("2 days: without straw, the lower", x.sellFirst(2), 1);
        Check.due("4 days", x.sellFirst(4), 1);
        x.sell(1);
        Check.due("not a sold one", x.sellFirst(4), 3);
        x.sell(3);
        Check.due("then the one in less straw", x.sellFirst(4), 2);
        Check.rule(x, "melts 100-straw*34;");
        x.day(1);
        Check.due("none is gone yet", x.gone(), 0);
        x.straw(-1, 2);
        x.day(1);
        Check.due("not one that is gone", x.sellFirst(4), 0);
        x.sell(0);
        Check.due("none", x.sellFirst(0), -1);
        Check.says("30", "SELL FIRST.");
        CutInMay y = Check.pond(3, 2, 0b11, 0);
        Check.due("by law", y.sellFirst(4), 0);
        Check.rule(y, "melts nth (edge-1) of (50,0);");
        Check.due("the one in the midst", y.sellFirst(2), 1);
        CutInMay z = Check.pond(4, 2, 0b001, 0);
        Check.rule(z, "melts nth size of (0,0,50);");
        Check.due("of like edges the larger", z.sellFirst(2), 1);
        Check.says("30", "NONE: none, and for others.");
        int[] others = {-1, 5, Integer.MIN_VALUE, Integer.MAX_VALUE};
        for (int n : others) Check.due("sellFirst " + n, y.sellFirst(n), -1);
        Check.rule(y, "melts 100;");
        y.day(1);
        Check.due("all are gone", y.sellFirst(1), -1);
    }

    private static void orders() {
        Check.says("III", "ORDERS (5 at most; told): KIND, DUE (DAY 0 .. 999), PENCE 1 .. 99");
        CutInMay x = new CutInMay();
        int[][] right = {{0, 0, 1}, {9, 999, 99}, {0, 999, 1}, {9, 0, 99}, {5, 5, 5}};
        for (int i = 0; i < 5; i++) Check.due("order " + i, x.order(right[i][0], right[i][1], right[i][2]), i + 1);
        Check.refused(x, "a sixth", () -> x.order(0, 0, 1), -2);
        Check.says("31", "An ORDER: how many there are (kind NONE: none any more).");
        Check.due("none any more, whatever else is told", x.order(-1, 9999, 0), 0);
        Check.due("none", x.about(4), 0);
        Check.due("none of none", x.order(-1, 0, 0), 0);
        Check.due("anew", x.order(0, 0, 1), 1);
        Check.says("31", "-2 for others, or if there are 5.");
        int[][] wrong = {{-2, 0, 1}, {10, 0, 1}, {0, -1, 1}, {0, 1000, 1}, {0, 0, 0}, {0, 0, 100}, {0, 0, -1}};
        Check.still(x, () -> {
            for (int[] w : wrong) Check.due("others", x.order(w[0], w[1], w[2]), -2);
            for (int far : FAR) Check.due("kind " + far, x.order(far, 0, 1), -2);
            Check.due("far", x.order(0, Integer.MAX_VALUE, 1) + x.order(0, 0, Integer.MIN_VALUE), -4);
        });
        for (int i = 2; i <= 5; i++) Check.due("up to 5", x.order(0, 0, 1), i);
        Check.refused(x, "there are 5", () -> x.order(0, 0, 1), -2);
    }

    private static void served(CutInMay x, int pence, int... blocks) {
        Check.due("PENCE", x.served(-1), pence);
        for (int order = 0; order < blocks.length; order++) Check.due("order " + order, x.served(order), blocks[order]);
    }

    private static void served() {
        Check.says("III", "each is served by a BLOCK of its own that isn't SOLD");
        CutInMay x = Check.pond(3, 2, 0b11, 0);
        x.sight(1, 1, 0, 1, 1, 9);
        x.order(1, 0, 5);
        x.order(1, 0, 6);
        served(x, 6, -1, 1);
        x.sell(1);
        served(x, 0, -1, -1);
        Check.says("III", "has a SIGHT of that KIND in it with all its cells");
        CutInMay y = Check.pond(4, 2, 0b010, 0);
        y.sight(1, 1, 0, 2, 1, 9);
        y.sight(2, 2, 0, 2, 2, 9);
        y.order(1, 0, 5);
        y.order(2, 0, 6);
        y.order(3, 0, 7);
        served(y, 6, -1, 1, -1);
        Check.says("III", "and hasn't MELTED to more than 10 times that one's LAYER on its DUE, as is foretold (DUE no earlier than DAY, no more than 60 later)");
        CutInMay z = new CutInMay();
        z.sight(1, 0, 0, 1, 1, 6);
        Check.rule(z, "melts nth (day+1) of (0,1);");
        int[] dues = {0, 60, 61, 62};
        int[] pence = {5, 5, 0, 0};
        for (int i = 0; i < dues.length; i++) {
            z.order(-1, 0, 0);
            z.order(1, dues[i], 5);
            Check.due("on DAY 0, DUE " + dues[i], z.served(-1), pence[i]);
        }
        z.day(1);
        z.order(-1, 0, 0);
        z.order(1, 0, 5);
        Check.due("DUE is past", z.served(-1), 0);
        z.order(1, 61, 7);
        Check.due("60 later, melted to just 60", z.served(-1), 7);
        Check.rule(z, "melts 2;");
        z.order(1, 31, 9);
        Check.due("60 in 30 days", z.served(-1), 9);
        z.order(1, 32, 11);
        Check.due("62 in 31 days", z.served(-1), 9);
        z.sight(1, 0, 0, 1, 1, 7);
        Check.due("by a deeper one of that kind", z.served(-1), 11);
        z.sight(2, 0, 0, 1, 1, 9);
        z.order(-1, 0, 0);
        z.order(1, 40, 9);
        Check.due("not by one of another kind", z.served(-1), 0);
    }

    private static void lowest() {
        Check.says("III", "the most PENCE; of like ones the lowest BLOCK (none behind all) for the first ORDER, then the second, ..: PENCE, the BLOCK of an ORDER (NONE).");
        CutInMay x = Check.pond(7, 2, 63, 0);
        for (int column = 0; column < 7; column++) x.sight(1, column, 0, 1, 1, 9);
        x.sight(2, 0, 0, 1, 1, 9);
        x.sight(2, 1, 0, 1, 1, 9);
        for (int i = 0; i < 5; i++) x.order(1, 0, 1);
        served(x, 5, 0, 1, 2, 3, 4);
        x.order(-1, 0, 0);
        x.order(1, 0, 10);
        x.order(2, 0, 10);
        x.order(2, 0, 10);
        served(x, 30, 2, 0, 1);
        x.order(2, 0, 10);
        served(x, 30, 2, 0, 1, -1);
        x.order(2, 0, 11);
        served(x, 31, 2, 0, -1, -1, 1);
        x.order(-1, 0, 0);
        x.order(2, 0, 5);
        x.order(1, 0, 5);
        x.order(2, 0, 5);
        served(x, 15, 0, 2, 1);
        CutInMay y = new CutInMay();
        y.sight(1, 0, 0, 1, 1, 0);
        for (int i = 0; i < 5; i++) y.order(1, 0, 7);
        served(y, 7, 0, -1, -1, -1, -1);
        Check.says("32", "ORDERS served: PENCE (order NONE), the BLOCK of an ORDER (NONE).");
        CutInMay z = new CutInMay();
        Check.due("without orders", z.served(-1), 0);
        z.order(1, 0, 7);
        served(z, 0, -1);
        z.sight(1, 0, 0, 1, 1, 0);
        served(z, 7, 0);
        Check.says("32", "-2 for others.");
        Check.due("order 1 of one", z.served(1), -2);
        for (int far : FAR) Check.due("order " + far, z.served(far), -2);
        z.order(-1, 0, 0);
        Check.due("order 0 of none", z.served(0), -2);
    }

    private static void glasses() {
        Check.says("III", "GLASSES (8 at most; told): that a KIND was seen in a BLOCK (0 .. 63, there or not), or not, when it had MELTED so much");
        CutInMay x = new CutInMay();
        int[][] right = {{0, 0, 0}, {9, 63, 100}, {0, 63, 100}, {9, 0, 0}, {5, 1, 50}, {1, 1, 1}, {2, 2, 2}, {3, 3, 3}};
        for (int i = 0; i < 8; i++) Check.due("glass " + i, x.glass(right[i][0], right[i][1], right[i][2], i % 2 == 0), i + 1);
        Check.refused(x, "a ninth", () -> x.glass(0, 0, 0, true), -2);
        Check.says("33", "A GLASS: how many there are (kind NONE: none any more).");
        Check.due("none any more, whatever else is told", x.glass(-1, -7, 777, true), 0);
        Check.due("nothing is known", x.layers(9, 63), 1023);
        Check.due("none of none", x.glass(-1, 0, 0, true), 0);
        Check.due("anew", x.glass(1, 1, 1, true), 1);
        Check.says("33", "-2 for others, or if there are 8.");
        int[][] wrong = {{-2, 0, 0}, {10, 0, 0}, {0, -1, 0}, {0, 64, 0}, {0, 0, -1}, {0, 0, 101}};
        Check.still(x, () -> {
            for (int[] w : wrong) Check.due("others", x.glass(w[0], w[1], w[2], false), -2);
            for (int far : FAR) Check.due("far", x.glass(far, 0, 0, true) + x.glass(0, far, 0, true), -4);
        });
        for (int i = 2; i <= 8; i++) Check.due("up to 8", x.glass(1, 1, 1, true), i);
        Check.refused(x, "there are 8", () -> x.glass(1, 1, 1, true), -2);
        Check.says("III", "LAYERS (bits) that a SIGHT of that KIND, in that BLOCK alone, may lie in by all that was told of both.");
        CutInMay y = new CutInMay();
        Check.due("nothing was told", y.layers(0, 0), 1023);
        int[] melted = {0, 1, 10, 11, 90, 91, 100};
        int[] seen = {0, 1, 1, 3, 511, 1023, 1023};
        for (int i = 0; i < melted.length; i++) {
            y.glass(-1, 0, 0, true);
            y.glass(4, 44, melted[i], true);
            Check.due("seen at " + melted[i], y.layers(4, 44), seen[i]);
            y.glass(-1, 0, 0, true);
            y.glass(4, 44, melted[i], false);
            Check.due("not seen at " + melted[i], y.layers(4, 44), 1023 - seen[i]);
            Check.due("another kind, another block", y.layers(5, 44) + y.layers(4, 45), 2046);
        }
        y.glass(-1, 0, 0, true);
        y.glass(4, 44, 35, false);
        y.glass(4, 44, 45, true);
        Check.due("both", y.layers(4, 44), 16);
        y.glass(4, 44, 45, false);
        Check.due("one against another", y.layers(4, 44), 0);
        Check.says("34", "LAYERS (bits) of a KIND in a BLOCK.");
        Check.due("the last of both", y.layers(9, 63), 1023);
        Check.says("34", "NONE for others.");
        int[][] others = {{-1, 0}, {10, 0}, {0, -1}, {0, 64}};
        for (int[] w : others) Check.due("others", y.layers(w[0], w[1]), -1);
        for (int far : FAR) Check.due("far", Math.max(y.layers(far, 0), y.layers(0, far)), -1);
    }
}
