/** Promises 1 to 3, 16 to 20: the pond, its sights, its blocks. */
public final class PondTest {
    public static void main(String[] args) {
        newObject();
        pond();
        sight();
        block();
        blockOf();
        ofSight();
        is();
        whole();
        Check.finish();
    }

    private static void isNew(CutInMay x) {
        int[] is = {0, 0, 0, 20, 73, 0, 0, 1, 1, 1};
        int[] about = {0, 0, -1, 0, 0, 0, 0, 0, 0};
        int[] block = {0, 0, 1, 1, 0, 0, 0, 4, 0, 4, 10};
        for (int i = 0; i < is.length; i++) Check.due("is " + i, x.is(i), is[i]);
        for (int i = 0; i < about.length; i++) Check.due("about " + i, x.about(i), about[i]);
        for (int i = 0; i < block.length; i++) Check.due("block 0, " + i, x.block(0, i), block[i]);
    }

    private static void newObject() {
        Check.promise("1 a new object");
        CutInMay x = new CutInMay();
        isNew(x);
        Check.due("tape", x.about(9), 0);
        Check.due("NONE", CutInMay.NONE, -1);
        x.pond(5, 4);
        x.sight(1, 0, 0, 1, 1, 1);
        x.saw(0, true);
        x.day(3);
        x.order(1, 1, 1);
        x.bid(4);
        Check.due("back", x.back(), 0);
        isNew(x);
        Check.due("pond anew", x.pond(3, 3), true);
    }

    private static void pond() {
        Check.promise("2 pond");
        CutInMay x = new CutInMay();
        int[][] wrong = {{1, 2}, {2, 1}, {9, 2}, {2, 9}, {0, 0}, {-3, 4}, {4, -3}, {Integer.MAX_VALUE, 3}, {3, Integer.MIN_VALUE}};
        for (int[] w : wrong) Check.due("pond of others", x.pond(w[0], w[1]), false);
        Check.due("wide still", x.is(7), 1);
        Check.due("a line of one cell", x.saw(0, true), -1);
        Check.due("straw on the one cell", x.straw(2, 0), 2);
        Check.due("2 by 8", x.pond(2, 8), true);
        Check.due("wide", x.is(7), 2);
        Check.due("high", x.is(8), 8);
        Check.due("the straw stays", x.block(0, 4), 2);
        Check.due("told again", x.pond(8, 2), false);
        Check.due("undo", x.undo(), 0);
        Check.due("a step back, and still told", x.pond(8, 2), false);
        Check.due("high as told", x.is(8), 8);
        Check.due("8 by 8", new CutInMay().pond(8, 8), true);
    }

    private static void sight() {
        Check.promise("3 sight");
        CutInMay x = new CutInMay();
        Check.due("of one cell", x.sight(9, 0, 0, 1, 1, 9), 0);
        Check.due("wider than one cell", x.sight(9, 0, 0, 2, 1, 9), -1);
        x.pond(4, 3);
        int[][] wrong = {
            {-1, 0, 0, 1, 1, 0}, {10, 0, 0, 1, 1, 0}, {0, -1, 0, 1, 1, 0}, {0, 0, -1, 1, 1, 0}, {0, 4, 0, 1, 1, 0}, {0, 0, 3, 1, 1, 0},
            {0, 0, 0, 0, 1, 0}, {0, 0, 0, 1, 0, 0}, {0, 0, 0, 4, 1, 0}, {0, 0, 0, 1, 1, -1}, {0, 0, 0, 1, 1, 10}, {0, 2, 0, 3, 1, 0},
            {0, 0, 1, 1, 3, 0}, {0, Integer.MAX_VALUE, 0, 3, 1, 0}, {0, 0, Integer.MAX_VALUE, 1, 3, 0}, {0, 0, 0, 1, Integer.MIN_VALUE, 0}
        };
        for (int[] w : wrong) Check.due("sight of others", x.sight(w[0], w[1], w[2], w[3], w[4], w[5]), -1);
        Check.due("how many", x.about(0), 1);
        Check.due("at the far corner", x.sight(0, 1, 0, 3, 3, 0), 1);
        CutInMay high = Check.pond(2, 5, 0, 0);
        Check.due("four high", high.sight(0, 0, 0, 1, 4, 0), -1);
        for (int i = 2; i < 12; i++) Check.due("number " + i, x.sight(i % 10, 0, 0, 1, 1, i % 10), i);
        Check.due("the 13th", x.sight(0, 0, 0, 1, 1, 0), -1);
        Check.due("twelve", x.about(0), 12);
    }

    private static void block() {
        Check.promise("16 block");
        CutInMay x = Check.pond(5, 4, 0b0101, 0b010);
        x.sight(3, 0, 0, 2, 3, 0);
        x.sight(4, 3, 1, 2, 2, 5);
        int[][] due = {
            {0, 0, 1, 2, 0, 0, 0, 2, 1, 2, 20}, {1, 0, 2, 2, 0, 0, 0, 1, 1, 1, 40}, {3, 0, 2, 2, 0, 0, 0, 2, 2, 2, 40},
            {0, 2, 1, 2, 0, 0, 0, 2, 1, 2, 20}, {1, 2, 2, 2, 0, 0, 0, 1, 1, 1, 40}, {3, 2, 2, 2, 0, 0, 0, 2, 2, 2, 40}
        };
        for (int b = 0; b < due.length; b++) {
            for (int what = 0; what < 11; what++) Check.due("block " + b + ", " + what, x.block(b, what), due[b][what]);
        }
        Check.due("the 7th", x.block(6, 0), -1);
        Check.due("none", x.block(-1, 0), -1);
        Check.due("what 11", x.block(0, 11), -1);
        Check.due("what -1", x.block(0, -1), -1);
        x.straw(4, 1);
        x.day(2);
        x.straw(1, 5);
        x.sell(0);
        Check.due("straw", x.block(1, 4), 4);
        Check.due("melted by 0+2, 3+2", x.block(3, 5), 7);
        Check.due("melted in straw", x.block(1, 5), 0);
        Check.due("sold", x.block(0, 6), 1);
        Check.due("not sold", x.block(1, 6), 0);
        Check.due("melts now: heat 2, edge 2, straw 1", x.block(5, 9), 3);
        Check.due("melts now, held at 0", x.block(1, 9), 0);
        Check.due("sells now: 2 * 93 / 10, cut", x.block(3, 10), 18);
        CutInMay full = Check.pond(8, 8, 127, 127);
        Check.due("64 blocks", full.block(63, 7), 2);
        Check.due("in the midst", full.block(9, 7), 0);
        Check.due("the 64th lies", full.block(63, 0) * 10 + full.block(63, 1), 77);
        Check.due("a 65th", full.block(64, 0), -1);
    }

    private static void blockOf() {
        Check.promise("17 blockOf");
        CutInMay x = Check.pond(4, 3, 0b010, 0b01);
        int[][] due = {{0, 0, 1, 1}, {2, 2, 3, 3}, {2, 2, 3, 3}};
        for (int row = 0; row < 3; row++) {
            for (int column = 0; column < 4; column++) Check.due("cell", x.blockOf(column, row), due[row][column]);
        }
        int[][] wrong = {{-1, 0}, {0, -1}, {4, 0}, {0, 3}, {Integer.MIN_VALUE, 0}, {0, Integer.MAX_VALUE}, {Integer.MIN_VALUE, Integer.MIN_VALUE}};
        for (int[] w : wrong) Check.due("no cell", x.blockOf(w[0], w[1]), -1);
    }

    private static void ofSight() {
        Check.promise("18 ofSight");
        CutInMay x = Check.pond(4, 3, 0b010, 0);
        x.sight(7, 1, 0, 3, 2, 0);
        x.sight(8, 2, 1, 1, 2, 9);
        int[][] due = {{7, 1, 0, 3, 2, 0, 0, 0}, {8, 2, 1, 1, 2, 9, 1, 0}};
        for (int s = 0; s < 2; s++) {
            for (int what = 0; what < 8; what++) Check.due("sight " + s + ", " + what, x.ofSight(s, what), due[s][what]);
        }
        Check.due("others", x.ofSight(2, 0), -1);
        Check.due("others", x.ofSight(-1, 0), -1);
        Check.due("others", x.ofSight(0, 8), -1);
        Check.due("others", x.ofSight(0, -1), -1);
        x.day(1);
        Check.due("it shows now", x.ofSight(0, 7), 1);
        Check.due("the deep one doesn't", x.ofSight(1, 7), 0);
        CutInMay y = new CutInMay();
        y.sight(0, 0, 0, 1, 1, 1);
        Check.say(y, "melts 5;");
        y.by(0);
        y.day(2);
        Check.due("melted to just 10 times the layer", y.ofSight(0, 7), 0);
        y.day(1);
        Check.due("to more", y.ofSight(0, 7), 1);
        y.sell(0);
        Check.due("sold ones show as well", y.ofSight(0, 7), 1);
    }

    private static void is() {
        Check.promise("19 is");
        CutInMay x = Check.pond(4, 3, 0b101, 0b10);
        x.straw(3, 2);
        x.day(2);
        x.sell(0);
        int[] due = {2, 2, 9, 17, 28668, 5, 2, 4, 3, 6};
        due[2] = x.block(0, 2) * x.block(0, 3) * (100 - x.block(0, 5)) / 10;
        for (int what = 0; what < 10; what++) Check.due("is " + what, x.is(what), due[what]);
        Check.due("others", x.is(10), -2);
        Check.due("others", x.is(-1), -2);
    }

    private static void whole() {
        Check.promise("20 whole");
        CutInMay x = new CutInMay();
        Check.due("without sights", x.whole(), 0);
        x.pond(8, 8);
        x.sight(0, 1, 1, 2, 1, 0);
        x.sight(0, 1, 1, 1, 2, 0);
        x.sight(0, 2, 2, 3, 3, 0);
        x.sight(0, 0, 0, 1, 1, 0);
        Check.due("without lines", x.whole(), 15);
        x.saw(0, true);
        Check.due("a line beside", x.whole(), 15);
        x.saw(1, true);
        Check.due("a line through the first", x.whole(), 14);
        x.saw(2, false);
        Check.due("a level line through the third", x.whole(), 10);
        x.saw(1, false);
        Check.due("a level line through the second", x.whole(), 8);
        x.undo();
        Check.due("taken back", x.whole(), 10);
    }
}
