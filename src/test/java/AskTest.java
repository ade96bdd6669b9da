/** Promises 21 to 30: what can be asked of lines, of days to come and of odds. */
public final class AskTest {
    public static void main(String[] args) {
        sawing();
        foretold();
        showsIn();
        dearest();
        together();
        ice();
        goneAndLitter();
        lasts();
        sellFirst();
        Check.finish();
    }

    private static void sawing(CutInMay x, int sights, int m, int rooms, int upright, int level) {
        String call = "sawing " + sights + ", " + m;
        Check.due(call + ", 0", x.sawing(sights, m, 0), rooms);
        Check.due(call + ", 1", x.sawing(sights, m, 1), upright);
        Check.due(call + ", 2", x.sawing(sights, m, 2), level);
    }

    private static void sawing() {
        Check.promise("21 sawing");
        CutInMay x = new CutInMay();
        sawing(x, 0, 1, 1, 0, 0);
        sawing(x, 0, 2, -1, -1, -1);
        x.pond(4, 3);
        sawing(x, 0, 1, 12, 7, 3);
        sawing(x, 0, 2, 6, 2, 3);
        sawing(x, 0, 3, 4, 7, 0);
        sawing(x, 0, 4, 3, 0, 3);
        sawing(x, 0, 5, 2, 2, 0);
        sawing(x, 0, 6, 2, 2, 0);
        sawing(x, 0, 7, 1, 0, 0);
        sawing(x, 0, 12, 1, 0, 0);
        sawing(x, 0, 13, -1, -1, -1);
        sawing(x, 0, 64, -1, -1, -1);
        x.sight(0, 0, 0, 2, 1, 0);
        x.sight(0, 2, 1, 2, 2, 0);
        x.sight(0, 1, 0, 2, 2, 0);
        sawing(x, 1, 1, 9, 6, 3);
        sawing(x, 2, 1, 6, 3, 1);
        sawing(x, 3, 1, 4, 2, 1);
        sawing(x, 7, 1, 1, 0, 0);
        sawing(x, 1, 2, 6, 2, 3);
        int[][] wrong = {{8, 1, 0}, {-1, 1, 0}, {0, 0, 0}, {0, 65, 0}, {0, -1, 0}, {0, 1, 3}, {0, 1, -1}, {Integer.MIN_VALUE, 1, 0},
            {0, Integer.MAX_VALUE, 0}};
        for (int[] w : wrong) Check.due("others", x.sawing(w[0], w[1], w[2]), -1);
        x.saw(0, true);
        x.straw(1, 0);
        sawing(x, 1, 1, 9, 6, 3);
        Check.due("it changes nothing", x.is(5), 1);
        CutInMay y = Check.pond(8, 8, 0, 0);
        sawing(y, 0, 1, 64, 127, 127);
        sawing(y, 0, 64, 1, 0, 0);
        sawing(y, 0, 9, 4, 0, 42);
        for (int i = 0; i < 12; i++) y.sight(0, i % 6, i % 6, 3, 3, 0);
        sawing(y, 4095, 1, 1, 0, 0);
    }

    private static void foretold() {
        Check.promise("22 foretold");
        CutInMay x = Check.pond(4, 2, 0b010, 0);
        Check.say(x, "melts heat+4-straw;rots nth day of (1,0,2);");
        x.by(0);
        x.sight(1, 0, 0, 1, 1, 0);
        x.sight(1, 1, 0, 2, 1, 1);
        x.straw(4, 0);
        // Heats: 0, 3, 2, 8. Straw of block 0: 4, 3, 3, 1. So it melts by 0, 4, 3, 11; block 1 by 4, 7, 6, 12.
        int[] zero = {0, 4, 7, 18};
        int[] one = {4, 11, 17, 29};
        int[] shows = {0, 3, 3, 3};
        for (int n = 1; n <= 4; n++) {
            Check.due("block 0 behind " + n, x.foretold(n, 0), zero[n - 1]);
            Check.due("block 1 behind " + n, x.foretold(n, 1), one[n - 1]);
            Check.due("sights behind " + n, x.foretold(n, -1), shows[n - 1]);
        }
        Check.due("it changes nothing", x.is(0) + x.block(0, 5) * 10 + x.block(0, 4) * 1000, 4000);
        Check.due("X as ever", x.is(4), 73);
        Check.due("60", x.foretold(60, 1), 100);
        int[][] wrong = {{0, 0}, {61, 0}, {-1, 0}, {1, 2}, {1, -2}, {0, -1}, {61, -1}};
        for (int[] w : wrong) Check.due("others", x.foretold(w[0], w[1]), -1);
        x.sell(1);
        Check.due("a sold one", x.foretold(9, 1), 0);
        x.day(3);
        Check.due("as it was told", x.block(0, 5), 7);
        atTheEnd();
    }

    private static void atTheEnd() {
        CutInMay x = new CutInMay();
        x.sight(0, 0, 0, 1, 1, 0);
        Check.say(x, "melts 0;");
        Check.say(x, "melts 3;");
        x.by(0);
        for (int i = 0; i < 16; i++) x.day(60);
        x.day(37);
        x.by(1);
        Check.due("two days are left", x.foretold(2, 0), 6);
        Check.due("999 bounds it", x.foretold(3, 0), 6);
        Check.due("999 bounds it", x.foretold(60, 0), 6);
        x.by(0);
        x.day(2);
        x.by(1);
        Check.due("none is left", x.foretold(1, 0), 0);
        Check.due("none is left", x.showsIn(0), -1);
        Check.due("odds go on", x.lasts(0, 4, false), 1);
        Check.say(x, "melts (day-999)*40;");
        x.by(2);
        Check.due("odds: beyond 999 it melts by 40 and 80", x.lasts(0, 2, false) * 10 + x.lasts(0, 3, false), 10);
    }

    private static void showsIn() {
        Check.promise("23 showsIn");
        CutInMay x = Check.pond(4, 2, 0b010, 0);
        Check.say(x, "melts nth (size-3) of (1,1)*5-straw*5+edge-3;");
        x.by(0);
        x.sight(1, 0, 0, 1, 1, 0);
        x.sight(1, 1, 0, 2, 1, 1);
        x.sight(1, 3, 0, 1, 1, 9);
        x.straw(1, 0);
        Check.due("in straw", x.showsIn(0), -1);
        Check.due("by the other block", x.showsIn(1), 3);
        Check.due("in the deepest layer", x.showsIn(2), 19);
        Check.due("others", x.showsIn(3), -1);
        Check.due("others", x.showsIn(-1), -1);
        x.day(3);
        Check.due("it does", x.showsIn(1), 0);
        Check.due("it changes nothing", x.is(0), 3);
        x.sell(1);
        Check.due("a sold one shows", x.showsIn(1), 0);
        Check.due("a sold one melts no more", x.showsIn(2), -1);
        CutInMay y = new CutInMay();
        y.sight(0, 0, 0, 1, 1, 5);
        y.sight(0, 0, 0, 1, 1, 6);
        Check.say(y, "melts 1;");
        y.by(0);
        Check.due("in 51", y.showsIn(0), 51);
        Check.due("60 at most", y.showsIn(1), -1);
        y.day(1);
        Check.due("in 60", y.showsIn(1), 60);
    }

    private static void dearest() {
        Check.promise("24 dearest");
        CutInMay x = Check.pond(4, 3, 0b001, 0b10);
        // 2, 6, 1 and 3 cells.
        int[] due = {1, 3, 0, 2, -1};
        for (int i = 0; i < due.length; i++) Check.due("dearest " + i, x.dearest(i), due[i]);
        Check.due("below", x.dearest(-1), -1);
        Check.due("beyond", x.dearest(64), -1);
        x.sell(3);
        int[] then = {1, 0, 2, -1};
        for (int i = 0; i < then.length; i++) Check.due("sold: " + i, x.dearest(i), then[i]);
        Check.say(x, "melts nth size of (100,0);sells 5;");
        x.by(0);
        int[] alike = {0, 1, 2, -1};
        for (int i = 0; i < alike.length; i++) Check.due("alike: " + i, x.dearest(i), alike[i]);
        x.day(1);
        int[] left = {0, 1, -1};
        for (int i = 0; i < left.length; i++) Check.due("gone: " + i, x.dearest(i), left[i]);
    }

    private static void together() {
        Check.promise("25 together");
        CutInMay x = Check.pond(4, 2, 0b010, 0);
        int[][] sights = {{1, 0, 0, 1, 1, 3}, {2, 1, 1, 1, 1, 3}, {2, 0, 0, 3, 1, 3}, {1, 0, 1, 1, 1, 4}, {3, 2, 0, 1, 1, 3}, {4, 3, 1, 1, 1, 3}};
        for (int[] s : sights) x.sight(s[0], s[1], s[2], s[3], s[4], s[5]);
        Check.due("two with the first", x.together(0), 2);
        Check.due("three of three kinds", x.together(1), 3);
        Check.due("others", x.together(2), -1);
        Check.due("others", x.together(-1), -1);
        Check.due("none", new CutInMay().together(0), 0);
    }

    private static void ice() {
        Check.promise("26 ice");
        CutInMay x = Check.pond(4, 3, 0b001, 0b10);
        Check.due("all", x.ice(false), 12);
        Check.due("none", x.ice(true), 0);
        x.sell(1);
        x.sell(2);
        Check.due("sold", x.ice(true), 7);
        Check.due("not", x.ice(false), 5);
        Check.say(x, "melts 100;");
        x.by(0);
        x.day(1);
        Check.due("gone ones aren't sold", x.ice(false), 5);
    }

    private static void goneAndLitter() {
        Check.promise("27 gone");
        CutInMay x = Check.pond(3, 2, 0b11, 0);
        Check.say(x, "melts 99-straw*99+day;");
        x.by(0);
        x.straw(1, 0);
        x.day(1);
        Check.due("99 is not gone", x.gone(), 0);
        x.sell(2);
        x.day(1);
        Check.due("one", x.gone(), 1);
        x.straw(-1, 0);
        x.day(1);
        Check.due("two", x.gone(), 2);
        Check.promise("28 litter");
        CutInMay y = Check.pond(3, 2, 0b11, 0);
        Check.due("none", y.litter(), 0);
        y.straw(4, 0);
        y.straw(5, 2);
        Check.due("all", y.litter(), 9);
        y.straw(-1, 0);
        Check.due("one less", y.litter(), 8);
        y.sell(2);
        Check.due("sold", y.litter(), 3);
    }

    private static void odds(CutInMay x, int block, int n, int upper, int lower) {
        Check.due("lasts " + block + ", " + n + " upper", x.lasts(block, n, false), upper);
        Check.due("lasts " + block + ", " + n + " lower", x.lasts(block, n, true), lower);
    }

    private static void lasts() {
        Check.promise("29 lasts");
        CutInMay x = Check.pond(3, 2, 0b11, 0);
        int[][] wrong = {{3, 1}, {-1, 1}, {0, 5}, {0, -1}};
        for (int[] w : wrong) {
            Check.due("others", x.lasts(w[0], w[1], false), -1);
            Check.due("others", x.lasts(w[0], w[1], true), -1);
        }
        for (int n = 0; n < 5; n++) odds(x, 0, n, 1, 1);
        Check.say(x, "melts 20+heat*5-straw;rots heat/3;");
        x.by(0);
        // Heat 0 first: 20. Then 20 + 5h each, to 80 in all: two days need h + i >= 8 of 0 .. 9, so 36 of 100 last.
        odds(x, 0, 1, 1, 1);
        odds(x, 0, 2, 1, 1);
        odds(x, 0, 3, 9, 25);
        // Three days need h + i + j >= 4: 20 of 1000 last.
        odds(x, 0, 4, 1, 50);
        x.straw(9, 1);
        // 9 of straw: 11 first. It rots by h / 3, then melts: one day leaves 89 - 20 - 5h + 9 - h / 3 above 0 always.
        odds(x, 1, 2, 1, 1);
        x.day(1);
        Check.due("it changes nothing", x.is(0), 1);
        Check.due("as it melted", x.block(1, 5), 11);
        x.sell(2);
        Check.say(x, "melts 100;");
        x.by(1);
        odds(x, 0, 0, 1, 1);
        odds(x, 0, 1, 0, 1);
        odds(x, 0, 4, 0, 1);
        odds(x, 2, 4, 1, 1);
        x.day(1);
        odds(x, 0, 0, 0, 1);
        odds(x, 0, 3, 0, 1);
        rotting();
    }

    private static void rotting() {
        CutInMay x = new CutInMay();
        Check.say(x, "melts 50-straw*50+day*0;rots nth (heat-6) of (0,1,1)+day-1;");
        x.by(0);
        x.straw(1, 0);
        // Straw 1 keeps all; it is gone by a heat of 8 or 9 ahead of the second day, or by the day number from the third on.
        odds(x, 0, 1, 1, 1);
        odds(x, 0, 2, 1, 1);
        odds(x, 0, 3, 4, 5);
        odds(x, 0, 4, 0, 1);
    }

    private static void sellFirst() {
        Check.promise("30 sellFirst");
        CutInMay x = Check.pond(4, 2, 0b111, 0);
        Check.due("others", x.sellFirst(-1), -1);
        Check.due("others", x.sellFirst(5), -1);
        Check.due("all alike", x.sellFirst(4), 0);
        Check.say(x, "melts 30+heat*5-straw*5;");
        x.by(0);
        x.straw(3, 0);
        x.straw(1, 1);
        x.straw(2, 3);
        Check.due("none", x.sellFirst(0), 0);
        Check.due("one day: all last", x.sellFirst(1), 0);
        Check.due("without straw", x.sellFirst(3), 2);
        x.sell(2);
        Check.due("then one of straw", x.sellFirst(3), 1);
        x.straw(1, 1);
        Check.due("of like ones the lowest", x.sellFirst(3), 1);
        Check.say(x, "melts 100-straw*100/3;");
        x.by(1);
        x.straw(1, 1);
        x.straw(-2, 3);
        x.day(1);
        Check.due("gone ones don't count", x.sellFirst(1), 0);
        x.sell(0);
        x.sell(1);
        Check.due("none any more", x.sellFirst(2), -1);
        CutInMay y = Check.pond(3, 2, 0b11, 0);
        Check.say(y, "melts 50-edge*10+heat*3;");
        y.by(0);
        Check.due("by its edge", y.sellFirst(3), 1);
        CutInMay z = Check.pond(4, 2, 0b011, 0);
        Check.say(z, "melts size*8+heat*3;");
        z.by(0);
        Check.due("by its size", z.sellFirst(4), 2);
    }
}
