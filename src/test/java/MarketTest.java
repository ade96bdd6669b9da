/** Promises 31 to 45: orders, glasses, auctions, kisses, measures, sellers, straw, laws. */
public final class MarketTest {
    public static void main(String[] args) {
        order();
        served();
        glass();
        layers();
        bid();
        auction();
        lies();
        kiss();
        unseen();
        measure();
        speed();
        sellers();
        strawBest();
        melt();
        whoseLaw();
        Check.finish();
    }

    private static void order() {
        Check.promise("31 order");
        CutInMay x = new CutInMay();
        int[][] wrong = {{-2, 0, 1}, {10, 0, 1}, {0, -1, 1}, {0, 1000, 1}, {0, 0, 0}, {0, 0, 100}, {0, 0, -1}};
        for (int[] w : wrong) Check.due("others", x.order(w[0], w[1], w[2]), -2);
        Check.due("none", x.about(4), 0);
        for (int i = 1; i <= 5; i++) Check.due("order " + i, x.order(i % 2 * 9, i % 2 * 999, i % 2 * 98 + 1), i);
        Check.due("a 6th", x.order(0, 0, 1), -2);
        Check.due("how many", x.about(4), 5);
        Check.due("none any more", x.order(-1, -5, 700), 0);
        Check.due("how many", x.about(4), 0);
        Check.due("anew", x.order(0, 0, 1), 1);
    }

    private static void served(CutInMay x, int pence, int... blocks) {
        Check.due("pence", x.served(-1), pence);
        for (int i = 0; i < blocks.length; i++) Check.due("order " + i, x.served(i), blocks[i]);
    }

    private static void served() {
        Check.promise("32 served");
        CutInMay x = Check.pond(4, 2, 0b111, 0);
        Check.due("without orders", x.served(-1), 0);
        Check.due("others", x.served(0), -2);
        Check.due("others", x.served(-2), -2);
        x.sight(1, 0, 0, 1, 1, 9);
        x.sight(1, 2, 0, 1, 2, 9);
        x.sight(2, 2, 1, 1, 1, 9);
        x.sight(3, 1, 0, 2, 1, 9);
        x.order(1, 3, 10);
        served(x, 10, 0);
        x.order(1, 3, 20);
        served(x, 30, 0, 2);
        x.order(2, 3, 15);
        served(x, 35, -1, 0, 2);
        x.order(3, 3, 99);
        served(x, 35, -1, 0, 2, -1);
        Check.due("others", x.served(4), -2);
        Check.say(x, "melts nth size of (0,heat+40);");
        x.by(0);
        // Heat 0, 3, 2: melted 40, 83, 100.
        served(x, 0, -1, -1, -1, -1);
        x.order(-1, 0, 0);
        x.order(1, 2, 5);
        served(x, 5, 0);
        x.order(2, 0, 5);
        x.order(1, 60, 6);
        served(x, 10, 0, 2, -1);
        x.day(1);
        served(x, 5, 0, -1, -1);
        Check.due("it changes nothing", x.is(0), 1);
        x.sell(0);
        served(x, 5, 2, -1, -1);
        x.order(-1, 0, 0);
        Check.say(x, "melts 0;");
        x.by(1);
        x.order(1, 61, 7);
        served(x, 7, 2);
        x.order(1, 62, 9);
        served(x, 7, 2, -1);
        best();
        layer();
    }

    private static void best() {
        CutInMay x = Check.pond(6, 2, 31, 0);
        int[][] sights = {{0, 0}, {0, 1}, {0, 2}, {1, 1}, {1, 2}, {1, 3}, {2, 0}, {2, 5}, {3, 4}, {3, 0}};
        for (int[] s : sights) x.sight(s[0], s[1], 0, 1, 1, 9);
        int[] kinds = {0, 0, 0, 1, 2};
        for (int kind : kinds) x.order(kind, 0, 10);
        served(x, 50, 0, 1, 2, 3, 5);
        x.order(-1, 0, 0);
        int[] others = {3, 2, 0, 0, 0};
        for (int kind : others) x.order(kind, 0, 10);
        served(x, 50, 4, 5, 0, 1, 2);
        x.order(-1, 0, 0);
        int[] few = {3, 2, 3, 2, 0};
        for (int i = 0; i < 5; i++) x.order(few[i], 0, i == 4 ? 1 : 10);
        served(x, 31, 0, 5, 4, -1, 1);
        CutInMay y = Check.pond(7, 2, 63, 0);
        for (int column = 0; column < 7; column++) y.sight(4, column, 1, 1, 1, 0);
        for (int i = 0; i < 5; i++) y.order(4, 0, 50 - i);
        served(y, 240, 0, 1, 2, 3, 4);
        y.sell(2);
        served(y, 240, 0, 1, 3, 4, 5);
    }

    private static void layer() {
        CutInMay x = new CutInMay();
        x.sight(0, 0, 0, 1, 1, 1);
        x.order(0, 2, 1);
        x.order(0, 3, 2);
        Check.say(x, "melts 5;");
        x.by(0);
        served(x, 1, 0, -1);
        x.sight(0, 0, 0, 1, 1, 2);
        served(x, 2, -1, 0);
        Check.due("not more", x.day(3), 8);
        served(x, 2, -1, 0);
        x.day(1);
        served(x, 0, -1, -1);
    }

    private static void glass() {
        Check.promise("33 glass");
        CutInMay x = new CutInMay();
        int[][] wrong = {{-2, 0, 0}, {10, 0, 0}, {0, -1, 0}, {0, 64, 0}, {0, 0, -1}, {0, 0, 101}};
        for (int[] w : wrong) Check.due("others", x.glass(w[0], w[1], w[2], true), -2);
        for (int i = 1; i <= 8; i++) Check.due("glass " + i, x.glass(i % 2 * 9, i % 2 * 63, i % 2 * 100, i % 2 == 0), i);
        Check.due("a 9th", x.glass(0, 0, 0, true), -2);
        Check.due("how many", x.about(5), 8);
        Check.due("none any more", x.glass(-1, 99, 999, false), 0);
        Check.due("how many", x.about(5), 0);
        Check.due("anew", x.glass(0, 0, 0, true), 1);
    }

    private static void layers() {
        Check.promise("34 layers");
        CutInMay x = new CutInMay();
        Check.due("nothing told", x.layers(9, 63), 1023);
        int[][] wrong = {{-1, 0}, {10, 0}, {0, -1}, {0, 64}};
        for (int[] w : wrong) Check.due("others", x.layers(w[0], w[1]), -1);
        x.glass(1, 40, 41, true);
        Check.due("0 .. 4", x.layers(1, 40), 31);
        x.glass(1, 40, 40, true);
        Check.due("0 .. 3", x.layers(1, 40), 15);
        x.glass(1, 40, 10, false);
        Check.due("1 .. 3", x.layers(1, 40), 14);
        x.glass(1, 40, 11, false);
        Check.due("2, 3", x.layers(1, 40), 12);
        x.glass(2, 40, 0, true);
        x.glass(1, 41, 100, false);
        Check.due("of both alone", x.layers(1, 40), 12);
        Check.due("seen in none", x.layers(2, 40), 0);
        Check.due("never seen", x.layers(1, 41), 0);
        Check.due("others are as ever", x.layers(2, 41), 1023);
        x.glass(3, 0, 0, false);
        Check.due("nothing had melted", x.layers(3, 0), 1023);
    }

    private static void bid() {
        Check.promise("35 bid");
        CutInMay x = new CutInMay();
        Check.due("others", x.bid(-2), -2);
        Check.due("others", x.bid(1000), -2);
        for (int i = 1; i <= 8; i++) Check.due("bid " + i, x.bid(i % 2 * 999), i);
        Check.due("a 9th", x.bid(0), -2);
        Check.due("how many", x.about(6), 8);
        Check.due("none any more", x.bid(-1), 0);
        Check.due("how many", x.about(6), 0);
        Check.due("anew", x.bid(1), 1);
    }

    private static void auction() {
        Check.promise("36 auction");
        CutInMay x = new CutInMay();
        Check.due("without any", x.auction(0), -1);
        Check.due("without any", x.auction(1), -1);
        x.bid(30);
        Check.due("alone", x.auction(0) * 1000 + x.auction(1), 0);
        Check.due("others", x.auction(2), -1);
        Check.due("others", x.auction(-1), -1);
        x.bid(20);
        Check.due("the first pays the second", x.auction(0) * 1000 + x.auction(1), 20);
        x.bid(70);
        Check.due("the third pays the first", x.auction(0) * 1000 + x.auction(1), 2030);
        x.bid(70);
        Check.due("the first of like ones", x.auction(0) * 1000 + x.auction(1), 2070);
        x.bid(71);
        Check.due("the fifth", x.auction(0) * 1000 + x.auction(1), 4070);
    }

    private static void lies() {
        Check.promise("37 lies");
        CutInMay x = new CutInMay();
        Check.due("without any", x.lies(0), -2);
        int[] bids = {50, 999, 0, 999, 50};
        for (int bid : bids) x.bid(bid);
        for (int k = 0; k < bids.length; k++) Check.due("of " + k, x.lies(k), 0);
        Check.due("others", x.lies(5), -2);
        Check.due("others", x.lies(-1), -2);
    }

    private static void kiss() {
        Check.promise("38 kiss");
        CutInMay x = Check.pond(4, 4, 0b010, 0b100);
        x.sight(0, 1, 1, 3, 3, 0);
        x.sight(0, 0, 0, 2, 2, 0);
        int[][] due = {{2, 9}, {4, 9}, {1, 9}, {2, 9}};
        for (int b = 0; b < 4; b++) {
            Check.due("upper " + b, x.kiss(0, b, false), due[b][0]);
            Check.due("lower " + b, x.kiss(0, b, true), due[b][1]);
        }
        Check.due("all of it", x.kiss(1, 0, false) * 10 + x.kiss(1, 0, true), 11);
        Check.due("nothing of it", x.kiss(1, 3, false) * 10 + x.kiss(1, 3, true), 1);
        x.sight(0, 0, 2, 1, 2, 0);
        Check.due("in lowest terms", x.kiss(2, 2, false) * 10 + x.kiss(2, 2, true), 12);
        int[][] wrong = {{3, 0}, {-1, 0}, {0, 4}, {0, -1}};
        for (int[] w : wrong) Check.due("others", x.kiss(w[0], w[1], true), -1);
    }

    private static void unseen() {
        Check.promise("39 unseen");
        CutInMay x = Check.pond(4, 2, 0b010, 0b1);
        x.sight(5, 1, 0, 2, 1, 0);
        x.sight(5, 0, 0, 1, 1, 9);
        x.sight(6, 3, 1, 1, 1, 9);
        Check.due("two blocks", x.unseen(5, false), 40);
        Check.due("one block", x.unseen(6, false), 20);
        Check.due("none", x.unseen(7, false), 0);
        Check.due("none shows", x.unseen(5, true), 0);
        Check.due("others", x.unseen(-1, true), -1);
        Check.due("others", x.unseen(10, false), -1);
        x.sell(0);
        Check.due("not the sold one", x.unseen(5, false), 20);
        x.day(1);
        Check.due("less by what melted", x.unseen(5, false), 19);
        Check.due("one shows", x.unseen(5, true), 1);
        Check.due("not this kind", x.unseen(6, true), 0);
        x.sell(1);
        Check.due("all are sold", x.unseen(5, false), 0);
        Check.due("sold ones show", x.unseen(5, true), 1);
        Check.say(x, "melts 100;sells 9;");
        x.by(0);
        x.day(1);
        Check.due("as sells says, of gone ones too", x.unseen(6, false), 9);
    }

    private static void measure() {
        Check.promise("40 measure");
        CutInMay x = new CutInMay();
        int[][] wrong = {{-2, 0}, {1000, 0}, {0, -1}, {0, 101}};
        for (int[] w : wrong) Check.due("others", x.measure(w[0], w[1]), -2);
        for (int i = 1; i <= 8; i++) Check.due("measure " + i, x.measure(i % 2 * 999, i % 2 * 100), i);
        Check.due("a 9th", x.measure(0, 0), -2);
        Check.due("how many", x.about(7), 8);
        Check.due("none any more", x.measure(-1, -1), 0);
        Check.due("how many", x.about(7), 0);
        Check.due("anew", x.measure(0, 0), 1);
    }

    private static void speeds(CutInMay x, int a, int b, int c, int d) {
        int[] due = {a, b, c, d};
        for (int what = 0; what < 4; what++) Check.due("speed " + what, x.speed(what), due[what]);
    }

    private static void speed() {
        Check.promise("41 speed");
        CutInMay x = new CutInMay();
        speeds(x, -100000, -100000, -100000, -100000);
        x.measure(5, 10);
        x.measure(5, 90);
        speeds(x, -100000, -100000, -100000, -100000);
        x.measure(1, 50);
        speeds(x, 10, 1, -10, 1);
        Check.due("others", x.speed(4), -100000);
        Check.due("others", x.speed(-1), -100000);
        x.measure(-1, 0);
        x.measure(9, 4);
        x.measure(3, 0);
        speeds(x, 2, 3, 2, 3);
        x.measure(12, 4);
        speeds(x, 2, 3, 0, 1);
        x.measure(999, 0);
        speeds(x, 2, 3, -4, 987);
        x.measure(11, 100);
        speeds(x, 48, 1, -96, 1);
        x.measure(-1, 0);
        x.measure(0, 0);
        x.measure(2, 1);
        x.measure(5, 3);
        speeds(x, 2, 3, 1, 2);
        x.measure(-1, 0);
        x.measure(0, 0);
        x.measure(3, 2);
        x.measure(5, 3);
        speeds(x, 2, 3, 1, 2);
    }

    private static void sellers() {
        Check.promise("42 sellers");
        CutInMay x = Check.pond(8, 2, 0b0010110, 0);
        // Blocks of 2, 1, 2 and 3 columns by two rows: worth 40, 20, 40, 60.
        Check.due("60 - 40 + 40 - 20", x.sellers(0), 40);
        Check.due("the last", x.sellers(1), 1);
        Check.due("others", x.sellers(2), -100000);
        Check.due("others", x.sellers(-1), -100000);
        x.sell(3);
        Check.due("40 - 40 + 20", x.sellers(0), 20);
        Check.due("like ones: the first", x.sellers(1), 0);
        x.sell(0);
        Check.due("20, 40", x.sellers(0), 20);
        Check.due("the last", x.sellers(1), 1);
        x.sell(2);
        Check.due("one", x.sellers(0), 20);
        Check.due("the first", x.sellers(1), 0);
        x.sell(1);
        Check.due("all are sold", x.sellers(0), -100000);
        Check.due("all are sold", x.sellers(1), -100000);
        CutInMay y = Check.pond(8, 8, 127, 127);
        Check.say(y, "sells straw*100+1;");
        y.by(0);
        Check.due("16 alike", y.sellers(0), 0);
        y.straw(9, 16);
        Check.due("the first 16 alone", y.sellers(0), 0);
        y.sell(3);
        Check.due("of those that aren't sold", y.sellers(0), 900);
        Check.due("the last", y.sellers(1), 1);
        y.straw(9, 1);
        Check.due("1, 901, 1 .. 1, 901", y.sellers(1), 1);
        Check.due("it changes nothing", y.is(2), 1);
        CutInMay z = Check.pond(5, 2, 0b01111, 0);
        Check.say(z, "sells nth (straw+1) of (3,9,1,2,8);");
        z.by(0);
        for (int b = 1; b < 5; b++) z.straw(b, b);
        // 3 9 1 2 8: of 9 1 2 8 the second gets 2 more, of 3 9 1 2 it gets 7 more.
        Check.due("by best play", z.sellers(0), 1);
        Check.due("like ones: the first", z.sellers(1), 0);
    }

    private static void strawBest() {
        Check.promise("43 strawBest");
        CutInMay x = Check.pond(4, 2, 0b010, 0);
        int[][] wrong = {{-1, 1}, {10, 1}, {0, 0}, {0, 21}, {0, -1}};
        for (int[] w : wrong) Check.due("others", x.strawBest(w[0], w[1]), -1);
        Check.due("none of straw", x.strawBest(0, 20), 0);
        Check.say(x, "melts 5-straw;");
        x.by(0);
        x.straw(8, 0);
        Check.due("one is kept already", x.strawBest(3, 2), 1);
        Check.due("it changes nothing", x.is(0) + x.is(3), 12);
        x.straw(-8, 0);
        Check.due("like ones", x.strawBest(3, 2), 0);
        x.sell(0);
        Check.due("not a sold one", x.strawBest(3, 2), 1);
        Check.due("nor at all", x.strawBest(0, 1), 1);
        x.sell(1);
        Check.due("none", x.strawBest(3, 2), -1);
        CutInMay y = Check.pond(8, 2, 0b0010010, 0);
        // Worth by cells, 4, 6 and 6; melting by 50 a day but for straw, so that in two days all are gone but by straw.
        Check.say(y, "melts 50-straw*10;rots heat/3;sells size*(100-melted)+straw;");
        Check.say(y, "melts 1;sells straw*100;");
        y.by(0);
        Check.due("the larger", y.strawBest(4, 2), 1);
        y.straw(9, 1);
        Check.due("the other", y.strawBest(4, 2), 2);
        y.by(1);
        Check.due("9 at most there", y.strawBest(5, 1), 0);
        y.straw(6, 0);
        Check.due("more goes on the third", y.strawBest(5, 1), 2);
        Check.due("from the heap or not", y.strawBest(9, 1), 2);
        Check.due("gone ones sell for nothing", gone(), 1);
    }

    private static int gone() {
        CutInMay x = Check.pond(4, 2, 0b010, 0);
        Check.say(x, "melts 60-straw*6;sells 500+straw;");
        x.by(0);
        x.straw(4, 1);
        // One of straw leaves block 0 gone by 54 twice, while block 1 sells for one more.
        return x.strawBest(1, 2);
    }

    private static void melt() {
        Check.promise("44 melt");
        CutInMay x = Check.pond(3, 2, 0b11, 0);
        int[][] wrong = {{-2, 0, 0, 0}, {3, 0, 0, 0}, {0, -1, 0, 0}, {0, 10, 0, 0}, {0, 0, -1, 0}, {0, 0, 10, 0}, {0, 0, 0, -1}, {0, 0, 0, 101}};
        for (int[] w : wrong) Check.due("others", x.melt(w[0], w[1], w[2], w[3]), -2);
        for (int i = 1; i <= 8; i++) Check.due("melt " + i, x.melt(i % 2 * 2, i % 2 * 9, i % 2 * 9, i % 2 * 100), i);
        Check.due("a 9th", x.melt(0, 0, 0, 0), -2);
        Check.due("how many", x.about(8), 8);
        Check.due("none any more", x.melt(-1, 77, 77, 777), 0);
        Check.due("how many", x.about(8), 0);
        Check.due("anew", x.melt(0, 0, 0, 0), 1);
    }

    private static void whoseLaw() {
        Check.promise("45 whoseLaw");
        CutInMay x = Check.pond(3, 2, 0b11, 0);
        Check.due("no texts", x.whoseLaw(), 0);
        Check.say(x, "melts heat+size;");
        Check.say(x, "sells 1;");
        Check.say(x, "melts heat+edge-straw+melted+day;");
        Check.due("all, without melts told", x.whoseLaw(), 7);
        x.melt(1, 4, 0, 6);
        Check.due("all by 4 + 2", x.whoseLaw(), 7);
        x.melt(1, 4, 1, 5);
        Check.due("by straw", x.whoseLaw(), 6);
        x.melt(0, 9, 0, 12);
        Check.due("by its edge", x.whoseLaw(), 6);
        x.by(2);
        x.day(1);
        Check.due("day and melted are as now", x.whoseLaw(), 2);
        x.melt(-1, 0, 0, 0);
        x.melt(1, 4, 0, 9);
        Check.due("4 + 2 + 2 + 1", x.whoseLaw(), 4);
        x.melt(1, 4, 9, 0);
        Check.due("held at 0", x.whoseLaw(), 4);
        x.melt(1, 0, 0, 0);
        Check.due("none", x.whoseLaw(), 0);
    }
}
