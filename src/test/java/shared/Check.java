import java.util.function.LongSupplier;

/** Counts and prints the answers that aren't the ones that are due. */
final class Check {
    private static int wrong = 0;
    private static int asked = 0;
    private static String about = "";
    private static boolean quoted = false;
    private static int askedBefore = 0;

    private Check() {
    }

    static void promise(String words) {
        about = words;
    }

    /** Which words of which part of the document the next answers are about; DocTest sees that they stand there. */
    static void says(String part, String words) {
        answered();
        about = part + ": '" + words + "'";
        quoted = true;
        askedBefore = asked;
    }

    /** Words that are quoted are no test: some answer must follow them. */
    private static void answered() {
        if (quoted && asked == askedBefore) {
            wrong++;
            System.out.println(about + ": no answer is looked at");
        }
        quoted = false;
    }

    static void due(String call, long got, long want) {
        asked++;
        if (got != want) {
            wrong++;
            System.out.println(about + ": " + call + " answered " + got + ", due is " + want);
        }
    }

    static void due(String call, boolean got, boolean want) {
        due(call, got ? 1 : 0, want ? 1 : 0);
    }

    /** A call that is refused: what it answers, and that all is then as it was. */
    static void refused(CutInMay x, String call, LongSupplier made, long want) {
        still(x, () -> due(call, made.getAsLong(), want));
    }

    /** Calls by which nothing changes. */
    static void still(CutInMay x, Runnable calls) {
        String before = sketch(x);
        calls.run();
        String behind = sketch(x);
        due("nothing changes: " + before + " then " + behind, before.equals(behind), true);
    }

    /** What a few calls tell of all that there is; few, as an object is good for 512. */
    static String sketch(CutInMay x) {
        StringBuilder told = new StringBuilder();
        for (int what = 0; what < 10; what++) told.append(x.is(what)).append(' ').append(x.about(what)).append(' ');
        told.append(x.fault(0)).append(' ').append(x.fault(1)).append(' ').append(x.litter()).append(' ');
        return told.append(x.gone()).append(' ').append(x.ice(true)).append(' ').append(x.foretold(1, -1)).toString();
    }

    /** Has the text read, and has it rule. */
    static void rule(CutInMay x, String text) {
        int number = say(x, text);
        due("a text that can rule: " + text, number >= 0 && x.by(number), true);
    }

    /** Nothing melts until so many days are past; then no text rules. */
    static void pass(CutInMay x, int days) {
        rule(x, "melts 0;");
        for (int left = days; left > 0; left -= 60) x.day(Math.min(60, left));
        x.by(-1);
    }

    /** Brings the text behind an empty tape and has it read: what text() answers. */
    static int say(CutInMay x, String text) {
        put(x, text);
        return x.text();
    }

    static void put(CutInMay x, String text) {
        x.end(0);
        for (int[] five : Calls.feeds(text)) x.feed(five[0], five[1], five[2], five[3], five[4]);
        x.end(text.length());
    }

    /** A pond, sawn behind the told columns and rows (bits). */
    static CutInMay pond(int wide, int high, int upright, int level) {
        CutInMay x = new CutInMay();
        x.pond(wide, high);
        for (int line = 0; line < 7; line++) {
            if ((upright >> line & 1) == 1) x.saw(line, true);
            if ((level >> line & 1) == 1) x.saw(line, false);
        }
        return x;
    }

    static void finish() {
        answered();
        System.out.println(wrong == 0 ? asked + " answers are as due" : wrong + " answers are not as due");
        if (wrong != 0) System.exit(1);
    }
}
