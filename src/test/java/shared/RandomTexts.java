import java.util.Random;

/** Texts by the grammar, most of them right, some with one thing changed. */
final class RandomTexts {
    private static final String[] NAMES = {"day", "heat", "size", "straw", "melted", "edge", "sights", "kinds"};
    private static final String[] ODD = {
        "<=", ">", "=", "#", "foo", "Day", "nth", "of", "(", ")", ",", ";", ":", "-", "+", "10000", "9999", "melts", "sells",
        "rots", "kinds", "sights", "by", "to", "\u00e9", "\u0000", "64", "61", "\t", "00000", "123456789012345678901234567890",
        "abcdefghijmelts"
    };

    private final Random random;

    RandomTexts(Random random) {
        this.random = random;
    }

    String next() {
        StringBuilder made = new StringBuilder();
        String[] laws = {"melts", "sells", "rots"};
        boolean[] had = new boolean[3];
        int clauses = random.nextInt(100) == 0 ? 30 : random.nextInt(9);
        for (int i = 0; i < clauses; i++) {
            int law = random.nextInt(3);
            boolean again = random.nextInt(60) == 0;
            String clause;
            if (clauses < 30 && random.nextInt(2) == 0 && (!had[law] || again)) {
                had[law] = true;
                clause = laws[law] + " " + sum(law, 0) + ";";
            } else {
                clause = clauses == 30 ? "saw 1;" : deed();
            }
            if (made.length() + clause.length() <= 300) made.append(clause);
        }
        return random.nextInt(3) > 0 ? made.toString() : changed(made);
    }

    /** Laws by which blocks last for some days, so that there is something to ask of them. */
    String mild() {
        String[] melts = {
            "melts heat/3;", "melts nth heat of(0,1,2,3,4,5)*size/4-straw/2;", "melts (heat*heat+edge*day)/9-straw;",
            "melts 40-melted/2+heat-straw*3;", "melts nth(day-melted)of(heat*2,edge,size/8);", "melts heat*4+edge-straw*2;", "melts 15+heat*3-straw;",
            "melts 30+nth heat of(0,1,2,3,9)+size/5-straw;", "melts heat*heat/2+edge*3;", ""
        };
        String[] sells = {
            "sells size*(100-melted)+straw*7;", "sells nth kinds of(3,50,200)*sights+size;", "sells 90-melted+heat*edge-day;",
            "sells sights*100-kinds*30+melted;", "sells straw*straw+kinds;", ""
        };
        String[] rots = {"rots heat/5;", "rots nth day of(0,1,0,2)-edge;", "rots straw/4+melted/50;", "rots size-3-heat;", "", ""};
        return melts[random.nextInt(melts.length)] + sells[random.nextInt(sells.length)] + rots[random.nextInt(rots.length)];
    }

    private String changed(StringBuilder made) {
        int at = random.nextInt(made.length() + 1);
        int to = Math.min(made.length(), at + random.nextInt(3));
        String odd = random.nextInt(3) == 0 ? "" : ODD[random.nextInt(ODD.length)];
        made.replace(at, to, odd);
        made.setLength(Math.min(300, made.length()));
        return made.toString();
    }

    private int number(int least, int most) {
        return random.nextInt(200) == 0 ? most + 1 : least + random.nextInt(most - least + 1);
    }

    private String deed() {
        switch (random.nextInt(8)) {
            case 0: return "pond " + number(2, 8) + " by " + number(2, 8) + ";";
            case 1: return "sight " + number(0, 9) + " at " + number(0, 7) + "," + number(0, 7) + ":" + number(1, 3) + " , "
                    + number(1, 3) + " deep " + number(0, 9) + ";";
            case 2: return "saw " + number(0, 6) + ";";
            case 3: return "cross " + number(0, 6) + " ;";
            case 4: return "straw " + number(1, 9) + " to " + number(0, random.nextBoolean() ? 63 : 4) + ";";
            case 5: return "day " + number(1, random.nextBoolean() ? 60 : 3) + ";";
            default: return "sell " + number(0, random.nextBoolean() ? 63 : 4) + ";\n";
        }
    }

    private String sum(int law, int depth) {
        StringBuilder made = new StringBuilder(product(law, depth));
        while (random.nextInt(3) == 0 && made.length() < 60) made.append("+-".charAt(random.nextInt(2))).append(product(law, depth));
        return made.toString();
    }

    private String product(int law, int depth) {
        StringBuilder made = new StringBuilder(one(law, depth));
        while (random.nextInt(3) == 0 && made.length() < 60) made.append("*/".charAt(random.nextInt(2))).append(one(law, depth));
        return made.toString();
    }

    private String one(int law, int depth) {
        int which = random.nextInt(depth > 10 ? 2 : random.nextInt(30) == 0 ? 40 : 6);
        if (which == 0) return "" + random.nextInt(random.nextInt(10) == 0 ? 9999 : 12);
        if (which == 1 || which == 2) return NAMES[random.nextInt(law == 1 || random.nextInt(80) == 0 ? 8 : 6)];
        if (which == 3) return "-" + one(law, depth + 1);
        if (which == 4) return "(" + sum(law, depth + 1) + ")";
        if (which > 5) return "(((((((".substring(random.nextInt(3)) + one(law, depth + 6) + ")))))))";
        StringBuilder made = new StringBuilder("nth ").append(one(law, depth + 1)).append(" of (").append(sum(law, depth + 1));
        int more = random.nextInt(40) == 0 ? 6 : random.nextInt(6);
        for (int i = 0; i < more; i++) made.append(',').append(random.nextBoolean() ? "" + i : sum(law, depth + 1));
        return made.append(')').toString();
    }
}
