/** Promises 9 to 15: sawing, straw, days, selling, scripts, summers, and taking back. */
public final class StepsTest {
    public static void main(String[] args) {
        saw();
        straw();
        day();
        sell();
        played();
        summer();
        undo();
        Check.finish();
    }

    private static void saw() {
        Check.promise("9 saw");
        CutInMay x = new CutInMay();
        Check.due("in one cell", x.saw(0, true), -1);
        x.pond(3, 2);
        int[] wrong = {-1, 2, 7, 31, 32, 33, Integer.MAX_VALUE, Integer.MIN_VALUE};
        for (int line : wrong) Check.due("upright of others", x.saw(line, true), -1);
        Check.due("level of others", x.saw(1, false), -1);
        Check.due("level of others", x.saw(-1, false), -1);
        Check.due("no step yet", x.about(3), 0);
        Check.due("upright", x.saw(1, true), 2);
        Check.due("again", x.saw(1, true), -1);
        Check.due("level", x.saw(0, false), 4);
        Check.due("again", x.saw(0, false), -1);
        Check.due("steps", x.about(3), 2);
        x.straw(1, 3);
        Check.due("in straw", x.saw(0, true), -1);
        x.straw(-1, 3);
        Check.due("without again", x.saw(0, true), 6);
        Check.due("lines", x.is(5) * 10 + x.is(6), 31);
        CutInMay y = Check.pond(2, 2, 0, 0);
        y.day(1);
        Check.due("melted", y.saw(0, true), -1);
        y.undo();
        y.sell(0);
        Check.due("sold", y.saw(0, true), -1);
        y.undo();
        Check.say(y, "melts 0;");
        y.by(0);
        y.day(5);
        Check.due("days alone don't matter", y.saw(0, true), 2);
        Check.due("all of 8 by 8", Check.pond(8, 8, 127, 127).is(9), 64);
    }

    private static void straw() {
        Check.promise("10 straw");
        CutInMay x = Check.pond(3, 2, 0b11, 0);
        int[][] wrong = {{0, 0}, {10, 0}, {-10, 0}, {1, 3}, {1, -1}, {-1, 0}, {Integer.MIN_VALUE, 0}, {Integer.MAX_VALUE, 0}, {1, Integer.MAX_VALUE}};
        for (int[] w : wrong) Check.due("of others", x.straw(w[0], w[1]), -1);
        Check.due("steps", x.about(3), 2);
        Check.due("nine", x.straw(9, 0), 9);
        Check.due("the heap", x.is(3), 11);
        Check.due("a tenth", x.straw(1, 0), -1);
        Check.due("nine more", x.straw(9, 1), 9);
        Check.due("not so many on the heap", x.straw(3, 2), -1);
        Check.due("all of the heap", x.straw(2, 2), 2);
        Check.due("the heap", x.is(3), 0);
        Check.due("back", x.straw(-4, 1), 5);
        Check.due("the heap", x.is(3), 4);
        Check.due("more than there is", x.straw(-6, 1), -1);
        Check.due("all back", x.straw(-5, 1), 0);
        Check.due("steps", x.about(3), 7);
        x.sell(1);
        Check.due("on a sold one", x.straw(1, 1), -1);
        Check.say(x, "melts 100;");
        x.by(0);
        x.day(1);
        Check.due("on one that is gone", x.straw(1, 2), 3);
        CutInMay y = Check.pond(8, 8, 127, 127);
        Check.due("on the last of 64", y.straw(2, 63), 2);
        Check.due("a 65th", y.straw(1, 64), -1);
        y.day(2);
        Check.due("it melted by 0, then by 3 + 2 - 2", y.block(63, 5), 3);
        y.sell(63);
        Check.due("sold", y.block(63, 6), 1);
    }

    private static void day() {
        Check.promise("11 day");
        CutInMay x = Check.pond(3, 2, 0b11, 0);
        int[] wrong = {0, -1, 61, Integer.MAX_VALUE, Integer.MIN_VALUE};
        for (int n : wrong) Check.due("of others", x.day(n), -1);
        Check.due("nothing is done", x.is(0), 0);
        x.straw(2, 0);
        x.sell(2);
        // X: 73, 20692, 28668, 28242
        Check.due("73 mod 10", x.day(1), 3);
        Check.due("X", x.is(4), 20692);
        Check.due("0 + edge 3 less 2", x.block(0, 5), 1);
        Check.due("0 + edge 2", x.block(1, 5), 2);
        Check.due("a sold one melts no more", x.block(2, 5), 0);
        Check.due("20692 mod 10, then 28668 mod 10", x.day(2), 8);
        Check.due("3 + 3 - 2, 2 + 3 - 2", x.block(0, 5), 1 + 4 + 3);
        Check.due("3 + 2, 2 + 2", x.block(1, 5), 2 + 5 + 4);
        Check.due("a step each", x.about(3), 2 + 2 + 3);
        Check.due("60", x.day(60), x.is(1));
        Check.due("the day", x.is(0), 63);
        Check.due("100 at most", x.block(1, 5), 100);
        for (int i = 0; i < 15; i++) x.day(60);
        Check.due("the day", x.is(0), 963);
        Check.due("beyond 999", x.day(37), -1);
        Check.due("nothing is done", x.is(0), 963);
        Check.due("up to 999", x.day(36), x.is(1));
        Check.due("999", x.is(0), 999);
        Check.due("beyond", x.day(1), -1);
        rotting();
    }

    private static void rotting() {
        CutInMay x = new CutInMay();
        Check.say(x, "melts nth (day+1) of (20,0);rots nth day of (heat-1,melted/10,straw);");
        x.by(0);
        x.straw(9, 0);
        x.day(1);
        Check.due("by the new heat, 3", x.block(0, 4), 7);
        x.day(1);
        Check.due("by what has melted, 20", x.block(0, 4), 5);
        x.day(1);
        Check.due("by its own straw", x.block(0, 4), 0);
        Check.due("none comes back", x.is(3), 11);
    }

    private static void sell() {
        Check.promise("12 sell");
        CutInMay x = Check.pond(4, 2, 0b010, 0);
        Check.due("others", x.sell(2), -1);
        Check.due("others", x.sell(-1), -1);
        x.straw(4, 0);
        x.day(1);
        Check.due("4 cells, 100 of 100", x.sell(0), 40);
        Check.due("the heap again", x.is(3), 20);
        Check.due("no straw there", x.block(0, 4), 0);
        Check.due("pence", x.is(2), 40);
        Check.due("again", x.sell(0), -1);
        Check.due("steps", x.about(3), 4);
        x.day(20);
        Check.due("melted to 100", x.block(1, 5), 100);
        Check.due("gone", x.sell(1), -1);
        CutInMay y = Check.pond(4, 2, 0b010, 0);
        Check.say(y, "sells straw*100+1;");
        y.by(0);
        y.straw(3, 0);
        Check.due("with its straw", y.sell(0), 301);
        Check.due("pence of the other are more", y.sell(1), 1);
        Check.due("together", y.is(2), 302);
        Check.due("sells now", y.block(0, 10), 1);
    }

    private static void played() {
        Check.promise("13 played");
        CutInMay x = new CutInMay();
        Check.due("others", x.played(0), -2);
        Check.due("others", x.played(-1), -2);
        Check.say(x, "rots 1;pond 4 by 3;sight 1 at 1,0:2,1 deep 4;saw 1;cross 0;straw 5 to 3;day 2;sell 3;");
        Check.due("all is done", x.played(0), -1);
        int[] is = {2, 2, 0, 20, 28668, 2, 1, 4, 3, 4};
        is[2] = 4 * (100 - x.block(3, 5)) / 10;
        for (int i = 0; i < is.length; i++) Check.due("is " + i, x.is(i), is[i]);
        Check.due("a sight", x.about(0), 1);
        Check.due("its parts", x.ofSight(0, 0) * 1000 + x.ofSight(0, 1) * 100 + x.ofSight(0, 3) * 10 + x.ofSight(0, 5), 1124);
        Check.due("steps", x.about(3), 6);
        Check.due("no law rules by it", x.about(2), -1);
        Check.due("it can't be again", x.played(0), 1);
        Check.due("others", x.played(1), -2);
        x.back();
        Check.due("no texts any more", x.played(0), -2);
        stopped("saw 0;", 0);
        stopped("sells 1;pond 2 by 2;saw 1;day 1;", 2);
        stopped("pond 2 by 2;cross 1;", 1);
        stopped("pond 2 by 2;pond 2 by 2;", 1);
        stopped("pond 2 by 2;sight 0 at 1,0:2,1 deep 0;", 1);
        stopped("straw 1 to 1;", 0);
        stopped("straw 9 to 0;straw 1 to 0;", 1);
        stopped("sell 0;straw 1 to 0;", 1);
        stopped("sell 1;", 0);
        stopped("day 60;sell 0;", 1);
        stopped("", -1);
        stopped("day 1;".repeat(23) + "sight 9 at 0,0:1,1 deep 9;", -1);
        CutInMay last = new CutInMay();
        Check.say(last, "day 1;".repeat(23) + "sight 8 at 0,0:1,1 deep 7;");
        last.played(0);
        Check.due("the 24th clause", last.ofSight(0, 0) * 10 + last.ofSight(0, 5), 87);
        toTheEnd();
    }

    private static void stopped(String text, int at) {
        CutInMay x = new CutInMay();
        Check.say(x, text);
        Check.due(text, x.played(0), at);
    }

    private static void toTheEnd() {
        CutInMay x = new CutInMay();
        for (int i = 0; i < 16; i++) x.day(60);
        Check.say(x, "melts 1;day 20;day 20;sell 0;");
        Check.due("those that can pass do", x.played(0), 2);
        Check.due("the day", x.is(0), 999);
        Check.due("none can", x.played(0), 1);
        Check.due("what was done stays", x.undo(), 29);
        Check.due("the day ahead", x.is(0), 998);
    }

    private static void summer() {
        Check.promise("14 summer");
        CutInMay x = Check.pond(4, 3, 0b010, 0b01);
        int[][] wrong = {{-1, 1}, {10000, 1}, {0, 0}, {0, 41}, {0, -1}, {Integer.MAX_VALUE, 1}, {0, Integer.MAX_VALUE}};
        for (int[] w : wrong) Check.due("others", x.summer(w[0], w[1]), -1);
        Check.due("no step by these", x.about(3), 2);
        Check.due("X still", x.is(4), 73);
        // Seed 0: x 73 sells block 1, 20692 and 28668 lay on block 0, 28242 is a day.
        Check.due("one: sold", x.summer(0, 1), 20);
        Check.due("X", x.is(4), 20692);
        Check.due("which", x.block(1, 6), 1);
        Check.due("it can't be sold again", x.summer(0, 4), 20);
        Check.due("straw", x.block(0, 4), 2);
        Check.due("the heap", x.is(3), 18);
        Check.due("the day", x.is(0), 1);
        Check.due("a sold one didn't melt", x.block(1, 5), 0);
        Check.due("another did", x.block(3, 5), 2);
        Check.due("one step each", x.about(3), 4);
        Check.due("undo", x.undo(), 3);
        Check.due("X as ahead of it", x.is(4), 20692);
        Check.due("straw as ahead of it", x.block(0, 4), 0);
        // Seed 3: x is 82, a day; its heat is by the X behind it, (82 * 281 + 179) mod 30293 = 23221.
        x.summer(3, 1);
        Check.due("a day", x.is(0), 1);
        Check.due("its heat", x.is(1), 1);
        Check.due("X anew twice", x.is(4), (23221 * 281 + 179) % 30293);
        Check.due("the largest seed", x.summer(9999, 40), x.is(2));
        CutInMay y = new CutInMay();
        for (int i = 0; i < 16; i++) y.day(60);
        y.day(39);
        y.summer(3, 1);
        Check.due("999 stays", y.is(0), 999);
        Check.due("and no heat is drawn", y.is(4), 23221);
    }

    private static void undo() {
        Check.promise("15 undo");
        CutInMay x = new CutInMay();
        Check.due("there is none", x.undo(), -1);
        x.pond(4, 3);
        x.sight(0, 0, 0, 1, 1, 0);
        Check.due("no step, a pond or a sight", x.undo(), -1);
        x.saw(0, true);
        x.saw(1, false);
        x.straw(3, 1);
        x.day(2);
        x.sell(1);
        x.summer(77, 20);
        // Block 1, 3 by 2 at two edges, has 3 of straw: it melts by 0, then by 3 + 2 - 3.
        int[][] is = {
            {2, 2, 58, 20, 28668, 1, 2}, {2, 2, 0, 17, 28668, 1, 2}, {1, 3, 0, 17, 20692, 1, 2}, {0, 0, 0, 17, 73, 1, 2},
            {0, 0, 0, 20, 73, 1, 2}, {0, 0, 0, 20, 73, 1, 0}, {0, 0, 0, 20, 73, 0, 0}
        };
        int[] melted = {2, 2, 0, 0, 0, 0, -1};
        int[] straw = {0, 3, 3, 3, 0, 0, -1};
        for (int i = 0; i < 7; i++) {
            Check.due("undo", x.undo(), 6 - i);
            for (int what = 0; what < 7; what++) Check.due("step " + i + " is " + what, x.is(what), is[i][what]);
            Check.due("step " + i + " melted", x.block(1, 5), melted[i]);
            Check.due("step " + i + " straw", x.block(1, 4), straw[i]);
            Check.due("step " + i + " sold", x.ice(true), i == 0 ? 6 : 0);
        }
        Check.due("none any more", x.undo(), -1);
        Check.due("blocks", x.is(9), 1);
        Check.due("the sight stays", x.about(0), 1);
        for (int i = 0; i < 31; i++) x.straw(i % 2 == 0 ? 1 : -1, 0);
        Check.due("30 at most", x.about(3), 30);
        for (int i = 29; i >= 0; i--) Check.due("undo", x.undo(), i);
        Check.due("the first can't be", x.undo(), -1);
        Check.due("its straw lies", x.block(0, 4), 1);
        x.day(40);
        Check.due("days are steps", x.about(3), 30);
        for (int i = 0; i < 30; i++) x.undo();
        Check.due("ten can't be", x.is(0), 10);
    }
}
