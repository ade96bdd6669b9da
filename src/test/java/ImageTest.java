/** Promises 46 to 48: the image, going back to it, and what there is. */
public final class ImageTest {
    public static void main(String[] args) {
        image();
        again();
        about();
        Check.finish();
    }

    private static CutInMay full() {
        CutInMay x = Check.pond(4, 3, 0b010, 0b01);
        x.sight(1, 0, 0, 2, 1, 3);
        x.sight(2, 1, 1, 1, 1, 4);
        Check.say(x, "melts 3;saw 1;");
        Check.say(x, "melts 4;");
        x.by(1);
        x.straw(2, 1);
        x.day(2);
        x.sell(0);
        x.order(1, 5, 9);
        x.glass(1, 0, 5, true);
        x.bid(4);
        x.bid(6);
        x.measure(0, 0);
        x.measure(2, 8);
        x.measure(4, 9);
        x.melt(2, 1, 1, 4);
        return x;
    }

    private static void change(CutInMay x) {
        x.sight(3, 0, 0, 1, 1, 1);
        Check.say(x, "melts 9;");
        x.by(2);
        x.straw(5, 3);
        x.day(4);
        x.sell(1);
        x.summer(5, 9);
        x.order(-1, 0, 0);
        x.order(2, 9, 1);
        x.order(2, 9, 1);
        x.glass(-1, 0, 0, true);
        x.glass(1, 0, 5, false);
        x.bid(-1);
        x.measure(-1, 0);
        x.measure(7, 7);
        x.melt(-1, 0, 0, 0);
        for (int i = 0; i < 12; i++) x.undo();
    }

    private static long[] seen(CutInMay x) {
        long[] made = new long[140];
        int n = 0;
        for (int i = 0; i < 10; i++) made[n++] = x.is(i);
        for (int i = 0; i < 9; i++) made[n++] = x.about(i);
        for (int b = 0; b < 6; b++) for (int what = 0; what < 11; what++) made[n++] = x.block(b, what);
        for (int s = 0; s < 4; s++) for (int what = 0; what < 8; what++) made[n++] = x.ofSight(s, what);
        made[n++] = x.served(-1);
        made[n++] = x.served(0);
        made[n++] = x.layers(1, 0);
        made[n++] = x.auction(0);
        made[n++] = x.auction(1);
        made[n++] = x.speed(0);
        made[n++] = x.speed(2);
        made[n++] = x.whoseLaw();
        return made;
    }

    private static void alike(String when, long[] got, long[] due) {
        for (int i = 0; i < due.length; i++) Check.due(when + ", look " + i, got[i], due[i]);
    }

    private static void image() {
        Check.promise("46 image, 47 back");
        CutInMay x = full();
        long[] then = seen(x);
        Check.due("the day", x.image(), 2);
        alike("an image changes nothing", seen(x), then);
        change(x);
        Check.due("the day", x.back(), 2);
        alike("back", seen(x), then);
        undone();
        CutInMay z = full();
        z.image();
        change(z);
        z.back();
        change(z);
        Check.due("it stays", z.back(), 2);
        alike("back again", seen(z), then);
        for (int i = 0; i < 6; i++) z.undo();
        Check.due("none any more", z.undo(), -1);
        Check.put(z, "saw 0");
        Check.due("back from steps taken back", z.back(), 2);
        alike("back", seen(z), then);
        Check.due("no tape is in it", z.about(9), 5);
        x.day(3);
        Check.due("another image", x.image(), 5);
        x.day(3);
        Check.due("back to that", x.back(), 5);
    }

    /** The steps of an image are taken back as if there had been none; each look is at new ones, as an object is good for 512 calls. */
    private static void undone() {
        for (int steps = 1; steps <= 6; steps++) {
            CutInMay x = full();
            x.image();
            change(x);
            x.back();
            CutInMay y = full();
            for (int i = 0; i < steps; i++) Check.due("steps are in it", x.undo(), y.undo());
            alike("undo " + steps, seen(x), seen(y));
        }
    }

    private static void again() {
        CutInMay x = new CutInMay();
        Check.say(x, "melts 1;");
        x.image();
        Check.say(x, "melts 2;");
        x.back();
        Check.due("the number is free again", Check.say(x, "melts 3;"), 1);
        x.by(1);
        Check.due("the later text", x.block(0, 9), 3);
        x.by(0);
        Check.due("the earlier text", x.block(0, 9), 1);
        CutInMay y = new CutInMay();
        y.image();
        y.pond(3, 3);
        y.saw(1, true);
        y.back();
        Check.due("one cell", y.is(9), 1);
        Check.due("a pond can be told", y.pond(2, 2), true);
    }

    private static void about() {
        Check.promise("48 about");
        CutInMay x = full();
        int[] due = {2, 2, 1, 6, 1, 1, 2, 3, 1, 0};
        for (int what = 0; what < 10; what++) Check.due("about " + what, x.about(what), due[what]);
        Check.due("others", x.about(10), -2);
        Check.due("others", x.about(-1), -2);
        x.feed(0, 0, 0, 0, 0);
        x.end(13);
        x.by(-1);
        Check.due("the tape", x.about(9), 13);
        Check.due("no text rules", x.about(2), -1);
    }
}
