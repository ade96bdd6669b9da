/** Counts and prints the answers that aren't the ones that are due. */
final class Check {
    private static int wrong = 0;
    private static int asked = 0;
    private static String about = "";

    private Check() {
    }

    static void promise(String words) {
        about = words;
    }

    static void due(String call, long got, long want) {
        asked++;
        if (got != want) {
            wrong++;
            System.out.println(about + ": " + call + " answered " + got + ", due is " + want);
        }
    }

    static void due(String call, boolean got, boolean want) {
        due(call, got ? 1 : 0, want ? 1 : 0);
    }

    /** Brings the text behind an empty tape and has it read: what text() answers. */
    static int say(CutInMay x, String text) {
        put(x, text);
        return x.text();
    }

    static void put(CutInMay x, String text) {
        x.end(0);
        for (int[] five : Calls.feeds(text)) x.feed(five[0], five[1], five[2], five[3], five[4]);
        x.end(text.length());
    }

    /** A pond, sawn behind the told columns and rows (bits). */
    static CutInMay pond(int wide, int high, int upright, int level) {
        CutInMay x = new CutInMay();
        x.pond(wide, high);
        for (int line = 0; line < 7; line++) {
            if ((upright >> line & 1) == 1) x.saw(line, true);
            if ((level >> line & 1) == 1) x.saw(line, false);
        }
        return x;
    }

    static void finish() {
        System.out.println(wrong == 0 ? asked + " answers are as due" : wrong + " answers are not as due");
        if (wrong != 0) System.exit(1);
    }
}
