/** The document's words on the pond, its blocks and steps, each with its edges: part I, promises 1 to 3, 9 to 12, 14 to 20. */
public final class EdgesOfPondTest {
    private static final int[] FAR = {Integer.MIN_VALUE, -65, -2, 64, 100, Integer.MAX_VALUE};

    public static void main(String[] args) {
        pondOfCells();
        sights();
        lines();
        blocks();
        heapAndDay();
        sawn();
        laid();
        dayPasses();
        sold();
        shows();
        steps();
        newObject();
        pondCall();
        sightCall();
        stepCalls();
        summerAndUndo();
        blockCall();
        cellAndSight();
        isAndWhole();
        Check.finish();
    }

    private static void pondOfCells() {
        Check.says("I", "THE POND: 2 .. 8 cells wide and as many high");
        for (int wide = -1; wide <= 10; wide++) {
            for (int high = -1; high <= 10; high++) {
                CutInMay x = new CutInMay();
                boolean right = wide >= 2 && wide <= 8 && high >= 2 && high <= 8;
                Check.due("pond " + wide + ", " + high, x.pond(wide, high), right);
                Check.due("wide", x.is(7), right ? wide : 1);
                Check.due("high", x.is(8), right ? high : 1);
            }
        }
        Check.says("I", "told once, 1 by 1 before");
        CutInMay x = new CutInMay();
        Check.due("1 by 1", x.is(7) * 10 + x.is(8), 11);
        Check.due("1 by 1 can't be told", x.pond(1, 1), false);
        Check.due("told", x.pond(3, 5), true);
        Check.due("the same again", x.pond(3, 5), false);
        Check.due("another", x.pond(5, 3), false);
        Check.due("as first told", x.is(7) * 10 + x.is(8), 35);
        Check.says("I", "not any more when something is SAWN");
        x.saw(1, true);
        Check.due("sawn", x.pond(4, 4), false);
        x.undo();
        Check.due("told, though nothing is sawn", x.pond(4, 4), false);
        CutInMay y = new CutInMay();
        Check.due("one cell has no upright line", y.saw(0, true), -1);
        Check.due("nor a level one", y.saw(0, false), -1);
        y.day(2);
        y.straw(3, 0);
        Check.due("days and straw are nothing sawn", y.pond(2, 2), true);
        Check.due("they stay", y.is(0) * 10 + y.block(0, 4), 23);
        Check.says("I", "10 LAYERS deep: LAYER 0 is the top");
        CutInMay z = new CutInMay();
        for (int layer = 0; layer < 10; layer++) z.sight(0, 0, 0, 1, 1, layer);
        Check.due("layer 10", z.sight(0, 0, 0, 1, 1, 10), -1);
        Check.rule(z, "melts 1;");
        for (int melted = 1; melted <= 100; melted++) {
            z.day(1);
            if (melted % 10 < 2) {
                for (int layer = 0; layer < 10; layer++) {
                    Check.due("layer " + layer + " at " + melted, z.ofSight(layer, 7), melted > 10 * layer ? 1 : 0);
                }
            }
        }
    }

    private static void sights() {
        Check.says("I", "SIGHTS 0 .. 11 (told one by one, within the pond)");
        CutInMay x = new CutInMay();
        for (int i = 0; i < 12; i++) Check.due("sight " + i, x.sight(0, 0, 0, 1, 1, 0), i);
        Check.refused(x, "a 13th", () -> x.sight(0, 0, 0, 1, 1, 0), -1);
        for (int cells = 1; cells <= 3; cells++) {
            CutInMay y = Check.pond(8, 5, 0, 0);
            int side = cells;
            Check.due("up to the right side", y.sight(0, 8 - side, 0, side, 1, 0), 0);
            Check.due("down to the lower side", y.sight(0, 0, 5 - side, 1, side, 0), 1);
            Check.refused(y, "beyond the right side", () -> y.sight(0, 9 - side, 0, side, 1, 0), -1);
            Check.refused(y, "beyond the lower side", () -> y.sight(0, 0, 6 - side, 1, side, 0), -1);
            Check.refused(y, "beyond the left side", () -> y.sight(0, -1, 0, side, 1, 0), -1);
            Check.refused(y, "beyond the upper side", () -> y.sight(0, 0, -1, 1, side, 0), -1);
        }
        Check.says("I", "KIND 0 .. 9, from a cell (its left, its upper one) 1 .. 3 cells wide and high, LAYER 0 .. 9");
        CutInMay z = Check.pond(8, 8, 0, 0);
        int[][] right = {{0, 0, 7, 1, 1, 0}, {9, 5, 0, 3, 3, 9}, {4, 6, 5, 2, 3, 5}};
        for (int i = 0; i < right.length; i++) {
            int[] r = right[i];
            Check.due("sight " + i, z.sight(r[0], r[1], r[2], r[3], r[4], r[5]), i);
            for (int what = 0; what < 6; what++) Check.due("sight " + i + ", " + what, z.ofSight(i, what), r[what]);
        }
        int[][] wrong = {{-1, 0, 0, 1, 1, 0}, {10, 0, 0, 1, 1, 0}, {0, 0, 0, 0, 1, 0}, {0, 0, 0, 4, 1, 0}, {0, 0, 0, 1, 0, 0},
            {0, 0, 0, 1, 4, 0}, {0, 0, 0, 1, 1, -1}, {0, 0, 0, 1, 1, 10}, {0, 3, 3, -1, 1, 0}, {0, 3, 3, 1, -1, 0}};
        Check.still(z, () -> {
            for (int[] w : wrong) Check.due("others", z.sight(w[0], w[1], w[2], w[3], w[4], w[5]), -1);
        });
    }

    private static void lines() {
        Check.says("I", "LINES: upright ones behind column 0, 1, .. (bits), level ones behind row 0, 1, .. (bits): SAWN or not (at first none)");
        CutInMay x = Check.pond(8, 3, 0, 0);
        Check.due("at first none", x.is(5) + x.is(6), 0);
        for (int line = 0; line < 7; line++) {
            Check.due("upright " + line, x.saw(line, true), line + 2);
            Check.due("its bit", x.is(5), (2 << line) - 1);
        }
        Check.refused(x, "behind the last column", () -> x.saw(7, true), -1);
        Check.due("level 1", x.saw(1, false), 16);
        Check.due("its bit", x.is(6), 2);
        Check.due("level 0", x.saw(0, false), 24);
        Check.due("both bits", x.is(6), 3);
        Check.refused(x, "behind the last row", () -> x.saw(2, false), -1);
        CutInMay y = Check.pond(2, 8, 0, 0);
        for (int line = 6; line >= 0; line--) Check.due("level " + line, y.saw(line, false), 8 - line);
        Check.due("all bits", y.is(6), 127);
        Check.refused(y, "behind the last row", () -> y.saw(7, false), -1);
        Check.refused(y, "behind the last column", () -> y.saw(1, true), -1);
        Check.due("the only upright one", y.saw(0, true), 16);
    }

    private static void blocks() {
        Check.says("I", "BLOCKS: the rooms between, by number from the left and the top, row by row: with their cells");
        CutInMay x = Check.pond(5, 4, 0b0101, 0b010);
        String[] rows = {"01122", "01122", "34455", "34455"};
        for (int row = 0; row < 4; row++) {
            for (int column = 0; column < 5; column++) {
                Check.due("cell " + column + ", " + row, x.blockOf(column, row), rows[row].charAt(column) - '0');
            }
        }
        CutInMay whole = Check.pond(8, 8, 0, 0);
        Check.due("one room of all", whole.is(9) * 1000 + whole.block(0, 2) * 10 + whole.block(0, 3), 1088);
        Check.says("I", "Of each BLOCK (64 at most)");
        CutInMay full = Check.pond(8, 8, 127, 127);
        Check.due("64", full.is(9), 64);
        Check.due("the last is of one cell", full.block(63, 2) * 10 + full.block(63, 3), 11);
        Check.due("straw on the last", full.straw(4, 63), 4);
        full.day(2);
        // Heat 0 and edge 2 less 4 is below 0; then 3 and 2 less 4.
        Check.due("the last melts", full.block(63, 5), 1);
        Check.due("the last is sold", full.sell(63), 9);
        Check.due("sold", full.block(63, 6), 1);
        Check.refused(full, "a 65th", () -> full.block(64, 0), -1);
        Check.says("I", "STRAW 0 .. 9,");
        CutInMay y = new CutInMay();
        Check.due("9", y.straw(9, 0), 9);
        Check.refused(y, "a 10th", () -> y.straw(1, 0), -1);
        Check.due("0", y.straw(-9, 0), 0);
        Check.refused(y, "below 0", () -> y.straw(-1, 0), -1);
        Check.says("I", "MELTED 0 .. 100 (of 100; 10 a LAYER)");
        Check.rule(y, "melts 33;");
        int[] melted = {0, 33, 66, 99, 100, 100};
        for (int day = 0; day < melted.length; day++) {
            Check.due("on day " + day, y.block(0, 5), melted[day]);
            y.day(1);
        }
        Check.says("I", "SOLD or not (at first 0 each)");
        CutInMay z = Check.pond(3, 3, 0b11, 0b11);
        for (int block = 0; block < 9; block++) {
            for (int what = 4; what < 7; what++) Check.due("block " + block + ", " + what, z.block(block, what), 0);
        }
    }

    private static void heapAndDay() {
        Check.says("I", "HEAP of STRAW 0 .. 99 (at first 20)");
        CutInMay x = Check.pond(3, 2, 0b11, 0);
        Check.due("at first", x.is(3), 20);
        x.straw(9, 0);
        x.straw(9, 1);
        Check.refused(x, "more than there is", () -> x.straw(3, 2), -1);
        Check.due("the last of it", x.straw(2, 2), 2);
        Check.due("none", x.is(3), 0);
        Check.refused(x, "of an empty one", () -> x.straw(1, 2), -1);
        x.straw(-9, 0);
        x.sell(1);
        x.straw(-2, 2);
        Check.due("all is back", x.is(3), 20);
        Check.says("I", "DAY 0 .. 999, HEAT 0 .. 9, PENCE (at first 0 each)");
        CutInMay y = new CutInMay();
        Check.due("at first", y.is(0) + y.is(1) + y.is(2), 0);
        int heats = 0;
        for (int i = 0; i < 60; i++) heats |= 1 << y.day(1);
        Check.due("every heat comes", heats, 1023);
        for (int i = 0; i < 15; i++) y.day(60);
        y.day(38);
        Check.due("998", y.is(0), 998);
        Check.due("the last day", y.day(1), y.is(1));
        Check.due("999", y.is(0), 999);
        Check.refused(y, "beyond", () -> y.day(1), -1);
        Check.says("I", "X: at first 73");
        Check.due("X", new CutInMay().is(4), 73);
    }

    private static void sawn() {
        Check.says("I", "SAWN: a LINE (that isn't)");
        CutInMay x = Check.pond(4, 4, 0b010, 0);
        Check.refused(x, "upright again", () -> x.saw(1, true), -1);
        Check.due("level of that number isn't", x.saw(1, false), 4);
        Check.refused(x, "level again", () -> x.saw(1, false), -1);
        Check.says("I", "while no BLOCK has STRAW");
        x.straw(1, 3);
        Check.refused(x, "straw on the last", () -> x.saw(0, true), -1);
        x.straw(-1, 3);
        Check.due("straw is off again", x.saw(0, true), 6);
        Check.says("I", "nothing of any has MELTED");
        Check.rule(x, "melts 1-size/4;");
        x.day(1);
        Check.due("a block of two cells melted, not one of four", x.block(0, 5) * 10 + x.block(2, 5), 10);
        Check.refused(x, "1 of 100 of one", () -> x.saw(2, true), -1);
        x.undo();
        Check.rule(x, "melts 0;");
        x.day(60);
        Check.due("days by which nothing melts", x.saw(2, true), 8);
        CutInMay y = Check.pond(4, 4, 0b010, 0);
        Check.rule(y, "melts 1-size;");
        y.day(60);
        Check.due("there is no block of no cells that melts", y.saw(0, true), 3);
        Check.says("I", "and none is SOLD");
        x.sell(7);
        Check.refused(x, "one is sold", () -> x.saw(0, false), -1);
        x.undo();
        Check.due("taken back", x.saw(0, false), 12);
    }

    private static void laid() {
        Check.says("I", "LAID: n of STRAW from the HEAP to a BLOCK");
        CutInMay x = Check.pond(3, 2, 0b11, 0);
        Check.due("six", x.straw(6, 1), 6);
        Check.due("off the heap", x.is(3), 14);
        Check.due("on no other", x.block(0, 4) + x.block(2, 4), 0);
        Check.says("I", "that isn't SOLD, 9 at most there");
        Check.refused(x, "four more, not even three of them", () -> x.straw(4, 1), -1);
        Check.due("three more", x.straw(3, 1), 9);
        x.sell(0);
        Check.refused(x, "on a sold one", () -> x.straw(1, 0), -1);
        Check.refused(x, "off a sold one", () -> x.straw(-1, 0), -1);
        Check.says("I", "or back (n below 0)");
        Check.refused(x, "off one that has none", () -> x.straw(-1, 2), -1);
        Check.due("some", x.straw(-4, 1), 5);
        Check.due("on the heap", x.is(3), 15);
        Check.refused(x, "more than lies there", () -> x.straw(-6, 1), -1);
        Check.due("all", x.straw(-5, 1), 0);
        Check.rule(x, "melts 100;");
        x.day(1);
        Check.due("on one that is gone", x.straw(2, 2), 2);
        Check.due("and off it", x.straw(-2, 2), 0);
    }

    private static void dayPasses() {
        Check.says("I", "A DAY: by number each BLOCK that isn't SOLD: MELTED is more by melts (100 at most)");
        CutInMay x = Check.pond(4, 2, 0b111, 0);
        x.sell(1);
        Check.rule(x, "melts day*10+heat+40;");
        x.day(1);
        int[] first = {40, 0, 40, 40};
        for (int block = 0; block < 4; block++) Check.due("melted of " + block, x.block(block, 5), first[block]);
        x.day(1);
        // The second day is DAY 1 with HEAT 3.
        Check.due("40 and 53", x.block(3, 5), 93);
        x.day(1);
        Check.due("100 at most", x.block(3, 5), 100);
        Check.due("the sold one", x.block(1, 5), 0);
        Check.says("I", "then DAY is one more (not beyond 999)");
        Check.due("three", x.is(0), 3);
        CutInMay last = new CutInMay();
        Check.pass(last, 998);
        last.straw(2, 0);
        Check.due("the heat of the last", last.day(1), last.is(1));
        int melted = last.block(0, 5);
        Check.refused(last, "none is left", () -> last.day(1), -1);
        Check.due("nothing melts then", last.block(0, 5), melted);
        Check.says("I", "HEAT a draw by 10 (X mod 10, X being (X * 281 + 179) mod 30293 then)");
        CutInMay y = new CutInMay();
        int drawn = 73;
        for (int day = 0; day < 100; day++) {
            Check.due("heat", y.day(1), drawn % 10);
            drawn = (drawn * 281 + 179) % 30293;
            Check.due("X", y.is(4), drawn);
        }
        rots();
    }

    private static void rots() {
        Check.says("I", "then each BLOCK's STRAW that isn't SOLD is less by rots (0 at least; none comes back)");
        CutInMay x = Check.pond(2, 2, 0b1, 0);
        x.straw(9, 0);
        x.straw(2, 1);
        Check.rule(x, "melts 0;rots day;");
        int[] left = {8, 6, 3, 0, 0};
        int[] other = {1, 0, 0, 0, 0};
        for (int i = 0; i < left.length; i++) {
            x.day(1);
            Check.due("by the new day: " + i, x.block(0, 4), left[i]);
            Check.due("0 at least: " + i, x.block(1, 4), other[i]);
            Check.due("none comes back: " + i, x.is(3), 9);
        }
        CutInMay y = new CutInMay();
        y.straw(9, 0);
        Check.rule(y, "melts 3;rots nth day of (heat,melted-3,0-5);");
        y.day(1);
        Check.due("by the new heat, 3", y.block(0, 4), 6);
        y.day(1);
        Check.due("by what has melted then, 6", y.block(0, 4), 3);
        y.day(1);
        Check.due("below 0 is none", y.block(0, 4), 3);
        CutInMay z = new CutInMay();
        z.straw(9, 0);
        Check.rule(z, "melts 100;rots 1;");
        z.day(4);
        Check.due("on one that is gone as well", z.block(0, 4), 5);
    }

    private static void sold() {
        Check.says("I", "SOLD: a BLOCK that isn't, and hasn't MELTED to 100");
        CutInMay x = Check.pond(3, 2, 0b11, 0);
        Check.due("not melted", x.sell(0), 20);
        Check.refused(x, "again", () -> x.sell(0), -1);
        Check.rule(x, "melts 99-day;");
        x.day(1);
        Check.due("99 of 100: a fifth of a penny", x.sell(1), 0);
        x.day(1);
        Check.due("100 of 100", x.block(2, 5), 100);
        Check.refused(x, "gone", () -> x.sell(2), -1);
        Check.says("I", "PENCE are more by sells");
        CutInMay y = Check.pond(4, 2, 0b010, 0);
        Check.rule(y, "sells 9999;");
        Check.due("one", y.sell(0), 9999);
        Check.due("PENCE", y.is(2), 9999);
        Check.due("two", y.sell(1), 9999);
        Check.due("PENCE have no bound of 9999", y.is(2), 19998);
        Check.says("I", "its STRAW is on the HEAP again (99 at most)");
        CutInMay z = Check.pond(3, 2, 0b11, 0);
        z.straw(9, 0);
        z.straw(4, 1);
        z.sell(0);
        Check.due("nine are back", z.is(3), 16);
        Check.due("none is on it", z.block(0, 4), 0);
        Check.due("the other has its own", z.block(1, 4), 4);
    }

    private static void shows() {
        Check.says("I", "SHOWS: a SIGHT with a cell in a BLOCK, if that has MELTED to more than 10 times its LAYER (SOLD ones as well)");
        CutInMay x = Check.pond(4, 2, 0b010, 0);
        x.sight(1, 1, 0, 2, 1, 3);
        x.sight(1, 0, 0, 1, 1, 3);
        x.straw(1, 0);
        Check.rule(x, "melts 15-straw*15;");
        x.day(2);
        Check.due("30 is not more", x.ofSight(0, 7), 0);
        Check.rule(x, "melts 1-straw;");
        x.day(1);
        Check.due("31 of one of its blocks", x.ofSight(0, 7), 1);
        Check.due("the other block's own", x.ofSight(1, 7), 0);
        x.sell(1);
        Check.due("by a sold one", x.ofSight(0, 7), 1);
    }

    /** What a step brings back, and the blocks of a small pond. */
    private static String yard(CutInMay x) {
        StringBuilder told = new StringBuilder();
        for (int what = 0; what < 10; what++) told.append(x.is(what)).append(' ');
        for (int block = 0; block < 4; block++) {
            for (int what = 0; what < 7; what++) told.append(x.block(block, what)).append(' ');
        }
        return told.toString();
    }

    private static void steps() {
        Check.says("I", "STEPS: SAWN, LAID, a DAY (each), SOLD, A SUMMER (see V)");
        CutInMay x = Check.pond(4, 2, 0, 0);
        Check.due("a pond is none", x.about(3), 0);
        String[] yards = new String[9];
        yards[0] = yard(x);
        x.saw(1, true);
        yards[1] = yard(x);
        x.straw(5, 1);
        yards[2] = yard(x);
        x.day(3);
        Check.due("a line, straw, three days", x.about(3), 5);
        yards[5] = yard(x);
        x.sell(0);
        yards[6] = yard(x);
        x.summer(1234, 40);
        yards[7] = yard(x);
        x.day(1);
        Check.due("sold, a summer, a day", x.about(3), 8);
        Check.says("I", "the latest first (LINES, all of BLOCKS, HEAP, DAY, HEAT, PENCE, X are as ahead of it)");
        x.sight(1, 0, 0, 1, 1, 0);
        Check.rule(x, "melts 1;");
        x.order(1, 1, 1);
        x.bid(3);
        for (int left = 7; left >= 0; left--) {
            Check.due("undo", x.undo(), left);
            if (yards[left] != null) Check.due("as ahead of step " + left, yard(x).equals(yards[left]), true);
        }
        Check.due("sights, texts, orders, bids stay", x.about(0) * 1000 + x.about(1) * 100 + x.about(4) * 10 + x.about(6), 1111);
        Check.due("the text rules still", x.about(2), 0);
        Check.says("I", "the latest 30 can be taken back");
        CutInMay y = new CutInMay();
        y.straw(3, 0);
        Check.due("29 days", y.day(29), y.is(1));
        Check.due("30 steps", y.about(3), 30);
        y.day(1);
        Check.due("30 still", y.about(3), 30);
        for (int left = 29; left >= 0; left--) Check.due("undo", y.undo(), left);
        Check.due("a 31st", y.undo(), -1);
        Check.due("the first of 31 stays", y.block(0, 4) * 10 + y.is(0), 30);
        y.day(60);
        Check.due("of 60 days the latest 30", y.about(3), 30);
        for (int left = 29; left >= 0; left--) Check.due("undo", y.undo(), left);
        Check.due("30 days stay", y.is(0), 30);
        y.day(2);
        Check.due("as many as were made since", y.about(3), 2);
    }

    private static void newObject() {
        Check.says("1", "A pond of one cell; THE IMAGE is this.");
        CutInMay x = new CutInMay();
        String fresh = yard(x) + Check.sketch(x);
        Check.due("one cell", x.blockOf(0, 0) * 10 + x.blockOf(1, 0), -1);
        x.pond(3, 3);
        x.saw(0, true);
        x.day(9);
        x.sight(0, 0, 0, 1, 1, 0);
        Check.say(x, "");
        x.by(0);
        x.order(0, 0, 1);
        x.glass(0, 0, 0, false);
        x.bid(0);
        x.measure(0, 0);
        x.melt(0, 0, 0, 0);
        Check.due("DAY of the image", x.back(), 0);
        CutInMay y = new CutInMay();
        Check.say(y, "");
        y.back();
        Check.due("as new, but for the latest fault", (yard(x) + Check.sketch(x)).equals(yard(y) + Check.sketch(y)), true);
        Check.due("as new", yard(x).equals(fresh.substring(0, yard(x).length())), true);
        Check.due("no text", y.about(1) * 10 + y.about(2), -1);
    }

    private static void pondCall() {
        Check.says("2", "THE POND: true.");
        CutInMay x = new CutInMay();
        x.straw(2, 0);
        x.day(1);
        Check.due("true", x.pond(8, 2), true);
        Check.due("one block still", x.is(9), 1);
        Check.due("its cells", x.block(0, 2) * 10 + x.block(0, 3), 82);
        Check.due("no step", x.about(3), 2);
        Check.says("2", "False for others, if it was told, or a LINE is SAWN.");
        CutInMay y = new CutInMay();
        int[][] wrong = {{1, 8}, {8, 1}, {9, 8}, {8, 9}, {0, 2}, {2, 0}, {-1, -1}};
        Check.still(y, () -> {
            for (int[] w : wrong) Check.due("others", y.pond(w[0], w[1]), false);
            for (int far : FAR) Check.due("far", y.pond(far, 4) || y.pond(4, far), false);
        });
        Check.due("refused ones count for nothing", y.pond(2, 2), true);
        Check.refused(y, "told", () -> y.pond(2, 2) ? 1 : 0, 0);
        y.saw(0, false);
        Check.refused(y, "sawn", () -> y.pond(3, 3) ? 1 : 0, 0);
        y.back();
        Check.due("the image is without a pond", y.pond(3, 3), true);
    }

    private static void sightCall() {
        Check.says("3", "A SIGHT: its number.");
        CutInMay x = Check.pond(3, 3, 0b11, 0b11);
        x.straw(1, 0);
        Check.due("over all, when all is sawn", x.sight(9, 0, 0, 3, 3, 9), 0);
        Check.due("a like one", x.sight(9, 0, 0, 3, 3, 9), 1);
        Check.due("a step taken back", x.undo(), 4);
        Check.due("it stays", x.about(0), 2);
        Check.says("3", "NONE for others, if it isn't within the pond, or if there are 12.");
        Check.still(x, () -> {
            for (int far : FAR) {
                Check.due("kind " + far, x.sight(far, 0, 0, 1, 1, 0), -1);
                Check.due("column " + far, x.sight(0, far, 0, 1, 1, 0), -1);
                Check.due("row " + far, x.sight(0, 0, far, 1, 1, 0), -1);
                Check.due("wide " + far, x.sight(0, 0, 0, far, 1, 0), -1);
                Check.due("high " + far, x.sight(0, 0, 0, 1, far, 0), -1);
                Check.due("layer " + far, x.sight(0, 0, 0, 1, 1, far), -1);
            }
        });
        CutInMay one = new CutInMay();
        Check.refused(one, "two cells of one", () -> one.sight(0, 0, 0, 1, 2, 0), -1);
        Check.due("the one cell", one.sight(0, 0, 0, 1, 1, 0), 0);
        one.image();
        for (int i = 1; i < 12; i++) one.sight(1, 0, 0, 1, 1, 1);
        Check.refused(one, "there are 12", () -> one.sight(0, 0, 0, 1, 1, 0), -1);
        one.back();
        Check.due("one in the image", one.sight(0, 0, 0, 1, 1, 0), 1);
    }

    private static void stepCalls() {
        Check.says("9", "SAWN: how many BLOCKS there are then.");
        CutInMay x = Check.pond(4, 3, 0, 0);
        int[] made = {x.saw(0, false), x.saw(2, true), x.saw(0, true), x.saw(1, false), x.saw(1, true)};
        int[] due = {2, 4, 6, 9, 12};
        for (int i = 0; i < due.length; i++) Check.due("line " + i, made[i], due[i]);
        Check.says("9", "NONE, if it can't be, and for others.");
        CutInMay y = Check.pond(4, 3, 0, 0);
        int[] wrong = {-1, 3, 7, 32, 64, Integer.MIN_VALUE, Integer.MAX_VALUE};
        Check.still(y, () -> {
            for (int line : wrong) Check.due("upright " + line, y.saw(line, true), -1);
            for (int line : wrong) Check.due("level " + line, y.saw(line, false), -1);
            Check.due("level 2", y.saw(2, false), -1);
        });
        Check.says("10", "LAID (-9 .. 9, not 0): STRAW of the BLOCK then.");
        Check.due("9", y.straw(9, 0), 9);
        Check.due("-9", y.straw(-9, 0), 0);
        Check.due("1", y.straw(1, 0), 1);
        Check.due("1 more", y.straw(1, 0), 2);
        Check.says("10", "NONE, if it can't be, and for others.");
        int[] amounts = {0, 10, -10, Integer.MIN_VALUE, Integer.MAX_VALUE};
        Check.still(y, () -> {
            for (int n : amounts) Check.due("straw " + n, y.straw(n, 0), -1);
            for (int far : FAR) Check.due("block " + far, y.straw(1, far), -1);
            Check.due("block 1 of one", y.straw(1, 1), -1);
            Check.due("block NONE", y.straw(1, -1), -1);
        });
        Check.says("11", "DAYS pass (1 .. 60): HEAT.");
        CutInMay z = new CutInMay();
        Check.due("1", z.day(1), 3);
        Check.due("60", z.day(60), z.is(1));
        Check.due("61 in all", z.is(0), 61);
        Check.says("11", "NONE for others, or beyond 999 (nothing is done then).");
        int[] days = {0, -1, 61, -60, Integer.MIN_VALUE, Integer.MAX_VALUE};
        Check.still(z, () -> {
            for (int n : days) Check.due("day " + n, z.day(n), -1);
        });
        for (int i = 0; i < 15; i++) z.day(60);
        Check.refused(z, "961 and 39", () -> z.day(39), -1);
        Check.due("961 and 38", z.day(38), z.is(1));
        Check.refused(z, "999 and 1", () -> z.day(1), -1);
        Check.refused(z, "999 and 60", () -> z.day(60), -1);
        Check.says("12", "SOLD: its PENCE.");
        CutInMay s = Check.pond(4, 3, 0b001, 0);
        Check.due("3 cells", s.sell(0), 30);
        Check.due("9 cells, not both", s.sell(1), 90);
        Check.says("12", "NONE, if it can't be, and for others.");
        Check.still(s, () -> {
            for (int far : FAR) Check.due("block " + far, s.sell(far), -1);
            Check.due("block 2 of two", s.sell(2), -1);
            Check.due("block NONE", s.sell(-1), -1);
            Check.due("sold", s.sell(1), -1);
        });
    }

    private static void summerAndUndo() {
        Check.says("14", "A SUMMER: PENCE.");
        CutInMay x = Check.pond(4, 2, 0b111, 0);
        Check.due("sold by hand", x.sell(2), 20);
        for (int seed = 0; seed < 30; seed++) Check.due("all PENCE", x.summer(seed, 3), x.is(2));
        Check.due("by hand and by summers", x.is(2) > 20, true);
        Check.says("14", "NONE for others.");
        int[][] wrong = {{-1, 1}, {10000, 1}, {0, 0}, {0, 41}, {0, -1}, {Integer.MIN_VALUE, 1}, {Integer.MAX_VALUE, 1},
            {0, Integer.MIN_VALUE}, {0, Integer.MAX_VALUE}};
        Check.still(x, () -> {
            for (int[] w : wrong) Check.due("others", x.summer(w[0], w[1]), -1);
        });
        Check.due("the greatest of both", x.summer(9999, 40), x.is(2));
        Check.says("15", "The latest STEP is taken back: how many can be yet.");
        CutInMay y = new CutInMay();
        y.day(3);
        Check.due("two yet", y.undo(), 2);
        Check.due("DAY", y.is(0), 2);
        Check.due("one yet", y.undo(), 1);
        Check.due("a new one", y.straw(1, 0), 1);
        Check.due("one yet", y.undo(), 1);
        Check.due("none yet", y.undo(), 0);
        Check.says("15", "NONE: there is none.");
        Check.refused(y, "none", () -> y.undo(), -1);
        CutInMay z = new CutInMay();
        Check.refused(z, "a new object", () -> z.undo(), -1);
        z.pond(2, 2);
        Check.refused(z, "a pond is no step", () -> z.undo(), -1);
    }

    private static void ofBlocks(CutInMay x, int[][] due, int from, int to) {
        for (int block = 0; block < due.length; block++) {
            for (int what = from; what <= to; what++) Check.due("block " + block + ", " + what, x.block(block, what), due[block][what]);
        }
    }

    private static void blockCall() {
        CutInMay x = Check.pond(4, 3, 0b001, 0b01);
        x.sight(3, 0, 0, 2, 2, 0);
        x.sight(4, 1, 1, 3, 2, 0);
        x.straw(2, 3);
        x.day(1);
        x.straw(1, 3);
        x.sell(2);
        // HEAT is 3 now; block 2 was sold with 2 of 100 melted.
        int[][] due = {
            {0, 0, 1, 1, 0, 2, 0, 2, 1, 5, 9}, {1, 0, 3, 1, 0, 2, 0, 2, 1, 5, 29},
            {0, 1, 1, 2, 0, 2, 1, 2, 1, 5, 19}, {1, 1, 3, 2, 3, 0, 0, 2, 3, 2, 60}
        };
        Check.says("16", "Of a BLOCK: 0 its left column, 1 its upper row, 2 wide, 3 high");
        ofBlocks(x, due, 0, 3);
        Check.says("16", "4 STRAW, 5 MELTED, 6 SOLD (1, 0), 7 EDGE");
        ofBlocks(x, due, 4, 7);
        Check.says("16", "8 SIGHTS with a cell in it (bits), 9 melts now, 10 sells now.");
        ofBlocks(x, due, 8, 10);
        Check.says("16", "NONE for others.");
        for (int far : FAR) {
            Check.due("block " + far, x.block(far, 0), -1);
            Check.due("what " + far, x.block(0, far), -1);
        }
        Check.due("block NONE", x.block(-1, 4), -1);
        Check.due("block 4 of four", x.block(4, 4), -1);
        Check.due("what 11", x.block(0, 11), -1);
        Check.due("what -1", x.block(0, -1), -1);
    }

    private static void ofSights(CutInMay x, int[][] due, int from, int to) {
        for (int sight = 0; sight < due.length; sight++) {
            for (int what = from; what <= to; what++) Check.due("sight " + sight + ", " + what, x.ofSight(sight, what), due[sight][what]);
        }
    }

    private static void cellAndSight() {
        CutInMay x = Check.pond(3, 2, 0b10, 0);
        Check.says("17", "Which BLOCK has a cell.");
        Check.due("the last cell", x.blockOf(2, 1), 1);
        Check.due("the first cell", x.blockOf(0, 0), 0);
        x.sell(1);
        Check.due("of a sold one", x.blockOf(2, 0), 1);
        Check.says("17", "NONE for others.");
        int[][] wrong = {{3, 0}, {0, 2}, {-1, 0}, {0, -1}, {3, 2}};
        for (int[] w : wrong) Check.due("others", x.blockOf(w[0], w[1]), -1);
        for (int far : FAR) Check.due("far", Math.max(x.blockOf(far, 0), x.blockOf(0, far)), -1);
        CutInMay y = Check.pond(4, 3, 0b001, 0);
        y.sight(9, 0, 1, 3, 2, 0);
        y.sight(8, 1, 0, 3, 1, 9);
        int[][] due = {{9, 0, 1, 3, 2, 0, 0, 0}, {8, 1, 0, 3, 1, 9, 1, 0}};
        Check.says("18", "Of a SIGHT: 0 KIND, 1 column, 2 row, 3 wide, 4 high, 5 LAYER");
        ofSights(y, due, 0, 5);
        Check.says("18", "6 whether it is WHOLE (1, 0), 7 whether it SHOWS (1, 0).");
        ofSights(y, due, 6, 7);
        y.day(1);
        Check.due("the first shows then", y.ofSight(0, 7), 1);
        Check.says("18", "NONE for others.");
        int[][] others = {{2, 0}, {-1, 0}, {12, 0}, {0, 8}, {0, -1}};
        for (int[] w : others) Check.due("others", y.ofSight(w[0], w[1]), -1);
        for (int far : FAR) Check.due("far", Math.max(y.ofSight(far, 0), y.ofSight(0, far)), -1);
        Check.due("without sights", x.ofSight(0, 0), -1);
    }

    private static void isAndWhole() {
        Check.says("19", "0 DAY, 1 HEAT, 2 PENCE, 3 HEAP, 4 X, 5 upright LINES (bits), 6 level ones, 7 wide, 8 high, 9 how many BLOCKS.");
        CutInMay x = Check.pond(4, 3, 0b100, 0b11);
        x.straw(7, 0);
        x.day(2);
        x.sell(5);
        // HEAT 0, then 3: block 5 of one cell and EDGE 2 melted by 2 and 5.
        int[] due = {2, 2, 9, 13, 28668, 4, 3, 4, 3, 6};
        for (int what = 0; what < 10; what++) Check.due("is " + what, x.is(what), due[what]);
        Check.says("19", "-2 for others.");
        for (int far : FAR) Check.due("is " + far, x.is(far), -2);
        Check.due("is 10", x.is(10), -2);
        Check.due("is -1", x.is(-1), -2);
        Check.says("20", "WHOLE (bits).");
        CutInMay y = Check.pond(3, 3, 0, 0);
        Check.due("no sight", y.whole(), 0);
        for (int i = 0; i < 12; i++) y.sight(0, i % 3, 0, 1, i % 2 + 1, 0);
        Check.due("all twelve", y.whole(), 4095);
        y.saw(0, false);
        Check.due("those of one row", y.whole(), 0b010101010101);
    }
}
