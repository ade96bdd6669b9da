/** The document's words on texts, each with its edges: part II, promises 4 to 8 and 13. */
public final class EdgesOfTextTest {
    private static final int[] FAR = {Integer.MIN_VALUE, -2, 4, 64, Integer.MAX_VALUE};

    public static void main(String[] args) {
        texts();
        tokens();
        clauses();
        sums();
        names();
        reckoning();
        places();
        leastFault();
        cantStand();
        numbers();
        open();
        otherFaults();
        ruling();
        playing();
        feed();
        end();
        textCall();
        faultCall();
        by();
        played();
        Check.finish();
    }

    private static void right(String text) {
        CutInMay x = new CutInMay();
        Check.due(text, Check.say(x, text), 0);
        Check.due(text + " (no fault)", x.fault(0) * 10 + x.fault(1), -1);
    }

    /** A text with a mark ahead of the token that has the fault. */
    private static void wrong(int which, String marked) {
        CutInMay x = new CutInMay();
        String text = marked.replace("|", "");
        Check.due(text, Check.say(x, text), -1);
        Check.due(text + " (its fault)", x.fault(0), which);
        Check.due(text + " (its place)", x.fault(1), marked.indexOf('|'));
    }

    /** What the one cell of a new pond sells for by the SUM. */
    private static void sum(String sum, int due) {
        CutInMay x = new CutInMay();
        Check.rule(x, "sells " + sum + ";");
        Check.due(sum, x.block(0, 10), due);
    }

    private static void texts() {
        Check.says("II", "TEXTS 0 .. 3: of up to 300 bytes.");
        CutInMay x = new CutInMay();
        for (int text = 0; text < 4; text++) Check.due("text " + text, Check.say(x, "melts " + text + ";"), text);
        Check.due("a fifth", Check.say(x, "melts 4;"), -1);
        for (int text = 0; text < 4; text++) {
            x.by(text);
            Check.due("the law of " + text, x.block(0, 9), text);
        }
        right("melts " + "1+".repeat(146) + "1;");
        Check.due("its length", ("melts " + "1+".repeat(146) + "1;").length(), 300);
        right("");
    }

    private static void tokens() {
        Check.says("II", "TOKENS, blanks (32, 10) aside");
        right(" \n");
        right("\n melts\n\n1 +\n2 ;\n ");
        right("melts heat;sells heat;");
        for (int sign = 0; sign < 256; sign++) {
            boolean blank = sign == 32 || sign == 10;
            CutInMay x = new CutInMay();
            Check.due("the byte " + sign + " for a blank", Check.say(x, (char) sign + "saw 1;"), blank ? 0 : -1);
        }
        Check.says("II", "letters a .. z, A .. Z one behind the other (one TOKEN)");
        right("day1;");
        wrong(1, "|sawsaw 1;");
        String[] ends = {"a", "z", "A", "Z"};
        for (String end : ends) wrong(1, "|saw" + end + "1;");
        for (String end : ends) wrong(1, "|" + end + "saw1;");
        wrong(1, "|s aw 1;");
        wrong(1, "|SAW 1;");
        wrong(1, "|Saw 1;");
        wrong(1, "melts |heatday;");
        right("melts heat-day;");
        Check.says("II", "digits likewise (NUMBERS, 0 .. 9999)");
        sum("9999", 9999);
        sum("0", 0);
        sum("0012", 12);
        sum("000000000000000000001", 1);
        wrong(2, "sells |10000;");
        wrong(1, "sells 1 |2;");
        sum("10/10", 1);
        wrong(1, "sells 1|heat;");
        Check.says("II", "<= >= < > = # + - * / ( ) , : ; (the longest)");
        String[] signs = {"<=", ">=", "<", ">", "=", "#"};
        for (String sign : signs) wrong(1, "melts 1|" + sign + "1;");
        for (String sign : signs) wrong(1, "|" + sign);
        right("melts(1+2-3*4/5);sells nth 1 of(1,2);sight 1 at 1,1:1,1 deep 1;");
    }

    private static void clauses() {
        Check.says("II", "{CLAUSE}, 24 at most");
        right("day 1;".repeat(24));
        right("day 1;".repeat(21) + "melts 1;sells 1;rots 1;");
        wrong(6, "day 1;".repeat(24) + "|day 1;");
        Check.says("II", "melts SUM ; or sells SUM ; or rots SUM ; (each once)");
        right("rots 1;sells 2;melts 3;");
        wrong(4, "melts 1;|melts 1;");
        wrong(4, "sells 1;rots 1;|sells 1;");
        wrong(4, "rots 1;day 1;|rots 1;");
        Check.says("II", "or pond NUMBER by NUMBER ;");
        CutInMay x = new CutInMay();
        Check.say(x, "pond 8 by 2;");
        x.played(0);
        Check.due("wide, high", x.is(7) * 10 + x.is(8), 82);
        Check.says("II", "or sight NUMBER at NUMBER , NUMBER : NUMBER , NUMBER deep NUMBER ; (KIND, column, row, wide, high, LAYER)");
        CutInMay y = Check.pond(8, 8, 0, 0);
        Check.say(y, "sight 9 at 5,4:3,2 deep 8;");
        y.played(0);
        int[] due = {9, 5, 4, 3, 2, 8};
        for (int what = 0; what < 6; what++) Check.due("sight, " + what, y.ofSight(0, what), due[what]);
        Check.says("II", "or saw NUMBER ; (upright) or cross NUMBER ; (level)");
        Check.say(y, "saw 6;cross 0;");
        y.played(1);
        Check.due("lines", y.is(5) * 10 + y.is(6), 641);
        Check.says("II", "or straw NUMBER to NUMBER ; (how much, BLOCK)");
        Check.say(y, "straw 2 to 3;");
        y.played(2);
        Check.due("straw", y.block(3, 4) * 10 + y.litter(), 22);
        Check.says("II", "or day NUMBER ; or sell NUMBER ;.");
        Check.say(y, "day 2;sell 1;");
        y.played(3);
        Check.due("day", y.is(0), 2);
        Check.due("sold", y.block(1, 6) * 10 + y.ice(true), 11);
    }

    private static void sums() {
        Check.says("II", "SUM: PRODUCT {+ or - PRODUCT}.");
        sum("7", 7);
        sum("9-4-3+1", 3);
        sum("9-2*3", 3);
        wrong(1, "melts 1+|;");
        wrong(1, "melts |+1;");
        Check.says("II", "PRODUCT: ONE {* or / ONE}.");
        sum("9/2*2", 8);
        sum("60/6/5", 2);
        sum("2*3*4", 24);
        wrong(1, "melts 1*|;");
        wrong(1, "melts |*1;");
        Check.says("II", "ONE: NUMBER, NAME, ( SUM ), - ONE, nth ONE of ( SUM {, SUM} )");
        sum("(3)", 3);
        sum("2*(3+4)", 14);
        sum("5--3", 8);
        sum("5+-3", 2);
        sum("-(2-9)", 7);
        sum("- - -(0-4)", 4);
        sum("size", 1);
        sum("nth 2 of (3,4)", 4);
        sum("nth(1+1)of(3,4)", 4);
        sum("nth nth 1 of (2) of (3,4)", 4);
        sum("-nth 1 of (1,2)+5", 4);
        wrong(1, "melts nth 1|+1 of (1);");
        wrong(1, "melts (|);");
        wrong(1, "melts nth 1 of (|);");
        wrong(1, "melts nth 1 of |1;");
        Check.says("II", "6 at most; by 1 the first, also if ONE is below; the last, if it is beyond");
        int[] due = {11, 11, 11, 12, 13, 14, 15, 16, 16, 16};
        for (int i = -1; i <= 8; i++) sum("nth " + (i < 0 ? "-1" : i) + " of (11,12,13,14,15,16)", due[i + 1]);
        sum("nth 9999 of (5)", 5);
        sum("nth (0-9999*9999) of (5,6)", 5);
        sum("nth (9999*9999) of (5,6)", 6);
        wrong(7, "melts nth 1 of (1,2,3,4,5,6,|7);");
    }

    /** A pond whose block 2 has something of all that a law can ask. */
    private static CutInMay lawful() {
        CutInMay x = Check.pond(4, 3, 0b010, 0b01);
        x.sight(2, 0, 1, 2, 1, 0);
        x.sight(2, 1, 0, 2, 2, 0);
        x.sight(5, 0, 2, 1, 1, 0);
        x.sight(7, 3, 2, 1, 1, 0);
        x.straw(1, 2);
        x.day(3);
        return x;
    }

    private static void names() {
        Check.says("II", "NAMES: day, heat in all; size (cells), straw, melted, edge (how many of its sides lie at the pond's) in all");
        // Of block 2: HEAT 0, 3, 2 and EDGE 2 less STRAW 1 is 1, 4, 3.
        String[] names = {"day", "heat", "size", "straw", "melted", "edge", "sights", "kinds"};
        int[] due = {3, 8, 4, 1, 8, 2, 3, 2};
        // A day later rots sees DAY 4, HEAT 2 and STRAW 4.
        int[] rotted = {4, 2, 4, 4, 8, 2};
        for (int i = 0; i < 6; i++) {
            CutInMay x = lawful();
            Check.rule(x, "melts " + names[i] + ";sells " + names[i] + "*10;");
            Check.due("melts " + names[i], x.block(2, 9), due[i]);
            Check.due("sells " + names[i], x.block(2, 10), due[i] * 10);
            Check.rule(x, "melts 0;rots " + names[i] + "-" + (rotted[i] - 1) + ";");
            x.straw(3, 2);
            x.day(1);
            Check.due("rots " + names[i], x.block(2, 4), 3);
        }
        Check.due("edge of the whole pond", new CutInMay().block(0, 7), 4);
        CutInMay y = Check.pond(2, 3, 0b1, 0);
        Check.due("edge of each half", y.block(0, 7) * 10 + y.block(1, 7), 33);
        CutInMay z = Check.pond(3, 3, 0b11, 0b11);
        int[] edges = {2, 1, 2, 1, 0, 1, 2, 1, 2};
        for (int block = 0; block < 9; block++) Check.due("edge of " + block, z.block(block, 7), edges[block]);
        Check.says("II", "sights (how many have a cell in it), kinds (of how many KINDS these are) in sells.");
        for (int i = 6; i < 8; i++) {
            CutInMay x = lawful();
            Check.rule(x, "sells " + names[i] + ";");
            Check.due("sells " + names[i], x.block(2, 10), due[i]);
            Check.due("of one with a cell of one", x.block(1, 10), 1);
            wrong(5, "melts |" + names[i] + ";");
            wrong(5, "rots |" + names[i] + ";");
        }
        sum("sights+kinds", 0);
        CutInMay one = new CutInMay();
        one.sight(3, 0, 0, 1, 1, 0);
        Check.rule(one, "sells sights*10+kinds;");
        Check.due("one of one", one.block(0, 10), 11);
        CutInMay many = new CutInMay();
        for (int i = 0; i < 12; i++) many.sight(i % 10, 0, 0, 1, 1, 0);
        Check.rule(many, "sells sights*100+kinds;");
        Check.due("twelve of ten", many.block(0, 10), 1210);
    }

    private static void reckoning() {
        Check.says("II", "nth: just the SUM that is chosen is asked.");
        sum("nth 1 of (4,9999*9999*9999,1/0)", 4);
        sum("nth 2 of (nth 9 of (1,2),7,nth 1 of (3,4))", 7);
        sum("nth 3 of (nth 9 of (1,2),7,nth 1 of (3,4))+1", 4);
        Check.says("II", "From the left; / cuts towards 0, by 0 it is 0");
        sum("100-10-1", 89);
        sum("100/10*10", 100);
        sum("7/2", 3);
        sum("-7/2+10", 7);
        sum("7/-2+10", 7);
        sum("-7/-2", 3);
        sum("1/2*9999", 0);
        sum("9/0", 0);
        sum("-9/0+4", 4);
        sum("0/0+4", 4);
        sum("9/(3-3)+4", 4);
        Check.says("II", "what is above 1000000 (below the same less) is that, at each step.");
        sum("1000*1000-1000*999-999", 1);
        sum("(1000*1000+1)-999*1000-1000", 0);
        sum("1001*1000/1000", 1000);
        sum("1000*1000+1000-1000*1000+5", 5);
        sum("0-1000*1000-1000+1000*1000+5", 5);
        sum("-1001*1000/1000+1001", 1);
        sum("9999*9999*9999*9999/1000", 1000);
        sum("-9999*9999*9999*9999/1000+1001", 1);
        sum("9999*9999*-1/1000+1001", 1);
        wrong(2, "sells |999999;");
    }

    private static void places() {
        Check.says("II", "FAULTS, the first as TOKENS are come to");
        wrong(1, "melts |; saw 9; foo");
        wrong(2, "saw |9; foo;");
        wrong(1, "saw 1; |foo 9; melts");
        wrong(5, "melts |sights foo;");
        wrong(1, "melts 1 |sights;");
        Check.says("II", "at the TOKEN's first byte (of the end at the length)");
        wrong(2, "  \n saw \n |77777 ;");
        wrong(1, "saw 1 \n|");
        wrong(1, "saw 1|");
        wrong(1, "saw|");
        wrong(1, "melts 1;\n saw  |");
        wrong(1, "melts 1 + |");
        wrong(1, "melts (1|");
        wrong(1, "melts nth|");
        CutInMay x = new CutInMay();
        Check.due("300 bytes", Check.say(x, "saw 1;" + " ".repeat(290) + "saw "), -1);
        Check.due("at the length of 300", x.fault(1), 300);
    }

    private static void leastFault() {
        Check.says("II", "of one the least");
        wrong(1, "melts 1 |99999;");
        wrong(1, "melts nth 1 of (1,1,1,1,1,1,|);");
        wrong(1, "melts nth 1 of (1,1,1,1,1,1,|foo);");
        wrong(2, "melts nth 1 of (1,1,1,1,1,1,|10000);");
        wrong(3, "melts (((((((nth 1 of (1,1,1,1,1,1,|-1))))))));");
        wrong(5, "melts nth 1 of (1,1,1,1,1,1,|kinds);");
        wrong(1, "saw 1;".repeat(24) + "|foo 1;");
        wrong(1, "saw 1;".repeat(24) + "|1;");
        wrong(4, "melts 1;" + "saw 1;".repeat(23) + "|melts 1;");
        wrong(6, "melts 1;" + "saw 1;".repeat(23) + "|sells 1;");
        wrong(1, "melts ((((((((|sell))))))));");
    }

    private static void cantStand() {
        Check.says("II", "1 it can't stand there, or is none.");
        String[] texts = {
            "|5;", "|;", "|heat 1;", "|by", "|of", "|nth 1 of (1);", "saw 1;|;", "saw |saw 1;", "saw 1|x;", "pond |by 2;",
            "pond 2 |at 2;", "pond 2 by |by;", "sight 1 |by 1,1:1,1 deep 1;", "sight 1 at 1|;", "sight 1 at 1|:1:1,1 deep 1;",
            "sight 1 at 1,1|,1,1 deep 1;", "sight 1 at 1,1:1|;", "sight 1 at 1,1:1,1|;", "sight 1 at 1,1:1,1 |to 1;", "straw 1 |at 1;",
            "straw |-1 to 1;", "day |heat;", "day 1|,", "sell |(1);", "cross 1|", "melts |;", "melts 1|,", "melts 1|)", "melts (1|,1);",
            "melts |by;", "melts |of;", "melts |sell;", "melts |melts;", "melts |Heat;", "melts |foo;", "melts nth 1|(1);",
            "melts nth 1 of |1;", "melts nth 1 of (1|;", "melts 1|#;", "melts |<1;", "melts 1|=1;"
        };
        for (String text : texts) wrong(1, text);
        int[] none = {0, 9, 11, 13, 31, 33, 34, 36, 37, 38, 39, 46, 63, 64, 91, 92, 93, 94, 95, 96, 123, 124, 125, 126, 127, 128, 160, 255};
        for (int sign : none) {
            CutInMay x = new CutInMay();
            Check.due("the byte " + sign, Check.say(x, "saw 1;" + (char) sign + "saw 2;"), -1);
            Check.due("its fault, its place", x.fault(0) * 100 + x.fault(1), 106);
        }
    }

    private static void numbers() {
        Check.says("II", "2 a NUMBER that isn't one of those told (above 9999; pond 2 .. 8, KINDS, LAYERS 0 .. 9, columns, rows 0 .. 7, "
                + "wide, high 1 .. 3, LINES 0 .. 6, STRAW 1 .. 9, BLOCKS 0 .. 63, DAYS 1 .. 60).");
        right("melts 9999;sells 0;");
        wrong(2, "melts |10000;");
        wrong(2, "melts nth |4294967297 of (1);");
        wrong(2, "melts 1-|18446744073709551617;");
        Object[][] bounds = {
            {"pond # by 2;", 2, 8}, {"pond 2 by #;", 2, 8}, {"sight # at 0,0:1,1 deep 0;", 0, 9}, {"sight 0 at 0,0:1,1 deep #;", 0, 9},
            {"sight 0 at #,0:1,1 deep 0;", 0, 7}, {"sight 0 at 0,#:1,1 deep 0;", 0, 7}, {"sight 0 at 0,0:#,1 deep 0;", 1, 3},
            {"sight 0 at 0,0:1,# deep 0;", 1, 3}, {"saw #;", 0, 6}, {"cross #;", 0, 6}, {"straw # to 0;", 1, 9}, {"straw 1 to #;", 0, 63},
            {"sell #;", 0, 63}, {"day #;", 1, 60}
        };
        for (Object[] bound : bounds) {
            String clause = (String) bound[0];
            int least = (int) bound[1];
            int most = (int) bound[2];
            right(clause.replace("#", "" + least));
            right(clause.replace("#", "" + most));
            wrong(2, clause.replace("#", "|" + (most + 1)));
            wrong(2, clause.replace("#", "|10000"));
            if (least > 0) wrong(2, clause.replace("#", "|" + (least - 1)));
        }
    }

    private static void open() {
        Check.says("II", "3 the 9th of ( nth and - (of one ONE) that are open around one another (at it; the ( of nth is no other one).");
        right("melts " + "(".repeat(8) + "1" + ")".repeat(8) + ";");
        wrong(3, "melts " + "(".repeat(8) + "|(1" + ")".repeat(9) + ";");
        right("melts " + "-".repeat(8) + "1;");
        wrong(3, "melts " + "-".repeat(8) + "|-1;");
        right("melts " + "nth ".repeat(8) + "1" + " of (1)".repeat(8) + ";");
        wrong(3, "melts " + "nth ".repeat(8) + "|nth 1" + " of (1)".repeat(9) + ";");
        right("melts " + "nth 1 of (".repeat(8) + "1" + ")".repeat(8) + ";");
        wrong(3, "melts " + "nth 1 of (".repeat(8) + "|nth 1 of (1" + ")".repeat(9) + ";");
        wrong(3, "melts " + "nth 1 of (".repeat(8) + "|(1)" + ")".repeat(8) + ";");
        wrong(3, "melts (-(-(-(-|-1))));");
        right("melts (-(-(-(-1))));");
        right("melts ((((((((1))))))))-((((((((1))))))));");
        right("melts --------1---------1;");
        wrong(3, "melts --------1---------|-1;");
        right("melts (((((((-1*-1-1)))))));");
    }

    private static void otherFaults() {
        Check.says("II", "4 melts, sells, rots for the second time (at it).");
        wrong(4, "melts 1; sells 1; rots 1; |melts");
        wrong(4, "sells 1;|sells;");
        wrong(4, "rots 1;|rots 99999;");
        wrong(1, "melts |melts 1;");
        Check.says("II", "5 a NAME that isn't of that CLAUSE (at it).");
        wrong(5, "melts 1+|sights;");
        wrong(5, "melts (|kinds);");
        wrong(5, "rots nth |sights of (1);");
        wrong(5, "sells kinds;rots -|kinds;");
        right("sells kinds*sights;");
        Check.says("II", "6 the 25th CLAUSE (at its first TOKEN).");
        wrong(6, "saw 1;".repeat(24) + " \n|saw 9;");
        wrong(6, "saw 1;".repeat(24) + "|saw");
        wrong(6, "saw 1;".repeat(24) + "|saw 1; foo");
        right("saw 1;".repeat(24) + " \n");
        Check.says("II", "7 the 7th SUM of one nth (at its first TOKEN).");
        wrong(7, "melts nth 1 of (1,1,1,1,1,1, |(1));");
        wrong(7, "melts nth 1 of (1,1,1,1,1,1,|heat);");
        wrong(7, "melts nth 1 of (1,1,1,1,1,1,|nth 1 of (1));");
        wrong(7, "melts nth 1 of (1,1,1,1,1,1,|-1,1,1);");
        wrong(7, "melts nth 1 of (1,nth 1 of (1,1,1,1,1,1,|1),1);");
        wrong(7, "melts nth 1 of (1,nth 1 of (1,1,1,1,1,1),1,1,1,1,|1);");
        wrong(7, "melts nth nth 1 of (1,1,1,1,1,1,|1) of (1);");
        right("melts nth 1 of (1,1,1,1,1,1)+nth 1 of (1,1,1,1,1,1);");
    }

    private static void ruling() {
        Check.says("II", "THE TEXT (told; at first none) rules.");
        CutInMay x = new CutInMay();
        Check.due("at first none", x.about(2), -1);
        Check.say(x, "melts 50;sells 3;");
        Check.due("it isn't told yet", x.block(0, 9) * 100 + x.block(0, 10), 410);
        x.by(0);
        Check.due("it rules", x.block(0, 9) * 100 + x.block(0, 10), 5003);
        x.day(1);
        Check.due("a day by it", x.block(0, 5), 50);
        Check.due("sold by it", x.sell(0), 3);
        Check.says("II", "melts: 0 at least, 100 at most");
        String[] melts = {"100", "101", "9999*9999", "0", "-1", "-9999*9999"};
        int[] held = {100, 100, 100, 0, 0, 0};
        for (int i = 0; i < melts.length; i++) {
            CutInMay y = new CutInMay();
            Check.rule(y, "melts " + melts[i] + ";");
            Check.due("melts " + melts[i], y.block(0, 9), held[i]);
            y.day(1);
            Check.due("a day of it", y.block(0, 5), held[i]);
        }
        Check.says("II", "without: HEAT and EDGE together less STRAW (so held, too).");
        CutInMay z = new CutInMay();
        Check.due("0 and 4", z.block(0, 9), 4);
        z.straw(4, 0);
        Check.due("less 4", z.block(0, 9), 0);
        z.straw(5, 0);
        Check.due("less 9 is below 0", z.block(0, 9), 0);
        z.day(3);
        Check.due("8 and 4 less 9", z.block(0, 9), 3);
        Check.rule(z, "sells 1;");
        Check.due("by a text without melts", z.block(0, 9), 3);
        sellsAndRots();
    }

    private static void sellsAndRots() {
        Check.says("II", "sells: 0 at least, 9999 at most");
        sum("9999", 9999);
        sum("9999+1", 9999);
        sum("9999*9999", 9999);
        sum("1-1", 0);
        sum("1-2", 0);
        Check.says("II", "without: cells times (100 less MELTED), by 10, cut (so held, too).");
        CutInMay x = Check.pond(8, 8, 0, 0);
        Check.due("64 cells", x.block(0, 10), 640);
        Check.rule(x, "melts 33;");
        int[] due = {428, 217, 6, 0, 0};
        for (int day = 0; day < due.length; day++) {
            x.day(1);
            Check.due("64 * (100 - " + x.block(0, 5) + ") / 10", x.block(0, 10), due[day]);
        }
        Check.says("II", "rots: 0 at least, 9 at most; without: 0.");
        String[] rots = {"9", "10", "9999*9999", "0", "-1", "-9999*9999", "3"};
        int[] left = {0, 0, 0, 9, 9, 9, 6};
        for (int i = 0; i < rots.length; i++) {
            CutInMay y = new CutInMay();
            y.straw(9, 0);
            Check.rule(y, "rots " + rots[i] + ";");
            y.day(1);
            Check.due("rots " + rots[i], y.block(0, 4), left[i]);
        }
        CutInMay z = new CutInMay();
        z.straw(9, 0);
        z.day(60);
        Check.due("without a text", z.block(0, 4), 9);
        Check.rule(z, "melts 1;");
        z.day(60);
        Check.due("by a text without rots", z.block(0, 4), 9);
    }

    private static void playing() {
        Check.says("II", "PLAYED by a TEXT: its CLAUSES but laws, in their order, as by hand");
        CutInMay x = new CutInMay();
        Check.say(x, "melts 90;pond 4 by 2;saw 1;sells 7;straw 3 to 0;rots 9;day 2;sell 1;sight 1 at 0,0:1,1 deep 0;");
        Check.due("all is done", x.played(0), -1);
        Check.due("its laws don't rule by that", x.about(2), -1);
        CutInMay y = new CutInMay();
        y.pond(4, 2);
        y.saw(1, true);
        y.straw(3, 0);
        y.day(2);
        y.sell(1);
        for (int what = 0; what < 10; what++) Check.due("is " + what, x.is(what), y.is(what));
        Check.due("steps as by hand", x.about(3), y.about(3));
        Check.due("steps", x.about(3), 5);
        Check.due("a sight", x.about(0), 1);
        Check.says("II", "one that can't be ends it (of so many DAYS those that can pass do): its number among all CLAUSES (from 0); what was done stays.");
        String[] scripts = {
            "pond 2 by 2;pond 2 by 2;day 9;", "melts 1;sight 0 at 1,0:1,1 deep 0;day 9;", "rots 1;sells 1;saw 0;day 9;", "cross 0;day 9;",
            "day 1;straw 9 to 0;straw 1 to 0;day 9;", "straw 1 to 1;day 9;", "sell 0;melts 0;sell 0;day 9;", "sell 63;day 9;"
        };
        int[] ends = {1, 1, 2, 0, 2, 0, 2, 0};
        int[] days = {0, 0, 0, 0, 1, 0, 0, 0};
        for (int i = 0; i < scripts.length; i++) {
            CutInMay z = new CutInMay();
            Check.say(z, scripts[i]);
            Check.due(scripts[i], z.played(0), ends[i]);
            Check.due("what was done", z.is(0), days[i]);
        }
        CutInMay last = new CutInMay();
        Check.pass(last, 960);
        Check.say(last, "melts 1;day 30;day 30;sell 0;");
        Check.due("of 60 days 39 pass", last.played(1), 2);
        Check.due("999", last.is(0), 999);
        Check.due("it isn't sold", last.block(0, 6), 0);
        Check.due("no day is left", last.played(1), 1);
        Check.say(last, "straw 1 to 0;day 1;");
        Check.due("straw can be", last.played(2), 1);
        Check.due("what was done stays", last.block(0, 4), 1);
    }

    private static void feed() {
        Check.says("4", "Twenty bytes come behind the tape, the highest of a first: how many it has.");
        CutInMay x = new CutInMay();
        Check.due("20", x.feed(0x73617720, 0x36202020, 0x20202020, 0x20202020, 0x2020203b), 20);
        Check.due("40", x.feed(0x63726f73, 0x73203620, 0x20202020, 0x20202020, 0x2020202a), 40);
        Check.due("not a text", x.text(), -1);
        Check.due("the lowest of e is the last", x.fault(1), 39);
        Check.due("signs above 127 too", x.feed(-1, -1, -1, -1, Integer.MIN_VALUE), 20);
        x.text();
        Check.due("at the first", x.fault(0) * 10 + x.fault(1), 10);
        Check.says("4", "NONE, and none come, if there would be more than 300.");
        CutInMay y = new CutInMay();
        for (int i = 1; i <= 15; i++) Check.due("feed " + i, y.feed(0x20202020, 0x20202020, 0x20202020, 0x20202020, 0x20202020), 20 * i);
        Check.refused(y, "320 would be", () -> y.feed(0, 0, 0, 0, 0), -1);
        y.end(281);
        Check.refused(y, "301 would be", () -> y.feed(0, 0, 0, 0, 0), -1);
        Check.due("none of them came", y.text(), 0);
        CutInMay z = new CutInMay();
        for (int i = 0; i < 15; i++) z.feed(0x20202020, 0x20202020, 0x20202020, 0x20202020, 0x20202020);
        z.end(280);
        Check.due("just 300", z.feed(0x20202020, 0x20202020, 0x20202020, 0x20202020, 0x20202021), 300);
        z.text();
        Check.due("the 300th", z.fault(1), 299);
    }

    private static void end() {
        Check.says("5", "The tape has its first n bytes alone: n.");
        CutInMay x = new CutInMay();
        Check.put(x, "saw 1;saw 9;");
        Check.due("all of them", x.end(12), 12);
        Check.due("the first six", x.end(6), 6);
        Check.due("a text", x.text(), 0);
        Check.put(x, "saw 1;");
        Check.due("none", x.end(0), 0);
        Check.due("the tape", x.about(9), 0);
        Check.due("more come behind them", x.feed(0x20202020, 0x20202020, 0x20202020, 0x20202020, 0x20202020), 20);
        Check.due("an empty one has none", new CutInMay().end(0), 0);
        Check.says("5", "NONE, and nothing is done, if it has not so many, or n is below 0.");
        Check.refused(x, "21 of 20", () -> x.end(21), -1);
        Check.refused(x, "-1", () -> x.end(-1), -1);
        Check.refused(x, "301", () -> x.end(301), -1);
        Check.refused(x, "the least", () -> x.end(Integer.MIN_VALUE), -1);
        Check.refused(x, "the greatest", () -> x.end(Integer.MAX_VALUE), -1);
        CutInMay y = new CutInMay();
        Check.refused(y, "1 of none", () -> y.end(1), -1);
    }

    private static void textCall() {
        Check.says("6", "The tape (empty then) is a TEXT: its number.");
        CutInMay x = new CutInMay();
        Check.due("of no bytes", x.text(), 0);
        Check.due("of no bytes again", x.text(), 1);
        Check.due("of some", Check.say(x, "day 1;"), 2);
        Check.due("empty then", x.about(9), 0);
        Check.says("6", "NONE: it has a FAULT; or (the tape stays) there are 4.");
        Check.due("a fault", Check.say(x, "day 61;"), -1);
        Check.due("empty then, too", x.about(9), 0);
        Check.due("no text", x.about(1), 3);
        Check.due("the next has the number", Check.say(x, "day 60;"), 3);
        Check.put(x, "day 2;");
        Check.refused(x, "there are 4", () -> x.text(), -1);
        Check.put(x, "day 61;");
        Check.refused(x, "there are 4, and a fault isn't read", () -> x.text(), -1);
        Check.due("the tape stays", x.about(9), 7);
    }

    private static void faultCall() {
        Check.says("7", "Of the latest text that was read: 0 its FAULT (0 without), 1 its place (NONE without).");
        CutInMay x = new CutInMay();
        Check.say(x, "  melts melts;");
        Check.due("fault, place", x.fault(0) * 100 + x.fault(1), 108);
        Check.put(x, "saw 1;");
        Check.due("not read yet", x.fault(0) * 100 + x.fault(1), 108);
        x.text();
        Check.due("without", x.fault(0), 0);
        Check.due("without", x.fault(1), -1);
        Check.say(x, "|");
        Check.due("place 0", x.fault(0) * 100 + x.fault(1), 100);
        Check.says("7", "NONE for others, and ahead of any.");
        int[] others = {-1, 2, 3, Integer.MIN_VALUE, Integer.MAX_VALUE};
        for (int what : others) Check.due("fault " + what, x.fault(what), -1);
        CutInMay y = new CutInMay();
        Check.put(y, "foo");
        for (int what = -1; what < 3; what++) Check.due("ahead of any, " + what, y.fault(what), -1);
    }

    private static void by() {
        Check.says("8", "THE TEXT (NONE: none): true.");
        CutInMay x = new CutInMay();
        for (int text = 0; text < 3; text++) Check.say(x, "melts " + (text + 20) + ";");
        Check.due("the last", x.by(2), true);
        Check.due("its law", x.block(0, 9), 22);
        Check.due("the first", x.by(0), true);
        Check.due("its law", x.block(0, 9), 20);
        Check.due("the same", x.by(0), true);
        Check.due("none", x.by(-1), true);
        Check.due("none again", x.by(-1), true);
        Check.due("as ever", x.block(0, 9), 4);
        x.by(1);
        Check.says("8", "False for others.");
        Check.refused(x, "text 3 of three", () -> x.by(3) ? 1 : 0, 0);
        Check.still(x, () -> {
            for (int far : FAR) Check.due("far", x.by(far), false);
        });
        Check.due("text 0 of none", new CutInMay().by(0), false);
    }

    private static void played() {
        Check.says("13", "PLAYED by a TEXT: NONE: all is done; else the number of the CLAUSE that can't be.");
        CutInMay x = new CutInMay();
        Check.say(x, "");
        Check.say(x, "melts 1;sells 1;rots 1;");
        Check.say(x, "day 1;".repeat(23) + "cross 0;");
        Check.due("nothing to do", x.played(0), -1);
        Check.due("laws alone", x.played(1), -1);
        Check.due("the last of 24", x.played(2), 23);
        Check.due("the first 23", x.is(0), 23);
        Check.due("again", x.played(2), 23);
        Check.due("steps, 30 at most", x.about(3), 30);
        Check.says("13", "-2 for others.");
        Check.refused(x, "text 3 of three", () -> x.played(3), -2);
        Check.refused(x, "NONE", () -> x.played(-1), -2);
        Check.still(x, () -> {
            for (int far : FAR) Check.due("far", x.played(far), -2);
        });
        Check.due("text 0 of none", new CutInMay().played(0), -2);
    }
}
