/** Promises 4 to 8: the tape, texts, their faults, and the laws in them. */
public final class TextTest {
    public static void main(String[] args) {
        feed();
        end();
        text();
        fault();
        faults();
        by();
        laws();
        Check.finish();
    }

    private static void feed() {
        Check.promise("4 feed");
        CutInMay x = new CutInMay();
        for (int i = 1; i <= 15; i++) Check.due("feed " + i, x.feed(0, 0, 0, 0, 0), 20 * i);
        Check.due("the 16th", x.feed(0, 0, 0, 0, 0), -1);
        Check.due("none come", x.about(9), 300);
        x.end(281);
        Check.due("301 would be", x.feed(0, 0, 0, 0, 0), -1);
        x.end(280);
        Check.due("just 300", x.feed(0, 0, 0, 0, 0), 300);
        x.end(0);
        x.feed(0x6d656c74, 0x73203132, 0x33203b0a, 0x20202020, 0x2020203b);
        x.text();
        Check.due("the highest byte is first: the last ; can't stand", x.fault(1), 19);
        x.feed(0x80808080, 0, 0, 0, 0);
        x.text();
        Check.due("bytes above 127", x.fault(0) * 100 + x.fault(1), 100);
    }

    private static void end() {
        Check.promise("5 end");
        CutInMay x = new CutInMay();
        Check.due("of an empty one", x.end(0), 0);
        Check.due("not so many", x.end(1), -1);
        x.feed(1, 2, 3, 4, 5);
        Check.due("below 0", x.end(-1), -1);
        Check.due("nothing is done", x.about(9), 20);
        Check.due("not so many", x.end(21), -1);
        Check.due("nothing is done", x.about(9), 20);
        Check.due("all", x.end(20), 20);
        Check.due("some", x.end(7), 7);
        Check.due("alone", x.about(9), 7);
        Check.due("come no more", x.end(8), -1);
        Check.put(x, "sell 1;");
        x.end(6);
        x.text();
        Check.due("its first bytes alone", x.fault(1), 6);
    }

    private static void text() {
        Check.promise("6 text");
        CutInMay x = new CutInMay();
        Check.due("an empty one", x.text(), 0);
        Check.due("its number", Check.say(x, "melts 1;"), 1);
        Check.due("the tape is empty then", x.about(9), 0);
        Check.due("a fault", Check.say(x, "melts;"), -1);
        Check.due("the tape is empty then as well", x.about(9), 0);
        Check.due("how many", x.about(1), 2);
        Check.due("blanks alone", Check.say(x, " \n \n"), 2);
        Check.due("the 4th", Check.say(x, "\nsaw 0 ; cross\n6;"), 3);
        Check.put(x, "melts;");
        Check.due("a 5th", x.text(), -1);
        Check.due("the tape stays", x.about(9), 6);
        Check.due("it wasn't read", x.fault(0), 0);
        Check.due("how many", x.about(1), 4);
        StringBuilder longest = new StringBuilder("melts 1");
        while (longest.length() < 297) longest.append("+1");
        CutInMay y = new CutInMay();
        Check.due("of 300 bytes", Check.say(y, longest.append(" ;").toString().substring(0, 299) + " "), 0);
        Check.due("24 clauses", Check.say(y, "saw 0;".repeat(24)), 1);
    }

    private static void fault() {
        Check.promise("7 fault");
        CutInMay x = new CutInMay();
        for (int what = -1; what < 3; what++) Check.due("ahead of any", x.fault(what), -1);
        Check.say(x, "saw 7;");
        Check.due("its fault", x.fault(0), 2);
        Check.due("its place", x.fault(1), 4);
        Check.due("others", x.fault(2), -1);
        Check.due("others", x.fault(-1), -1);
        x.image();
        Check.say(x, "saw 6;");
        Check.due("without", x.fault(0), 0);
        Check.due("no place", x.fault(1), -1);
        Check.say(x, "");
        Check.due("without, of an empty one", x.fault(0), 0);
        Check.say(x, "#");
        x.back();
        Check.due("no image has it", x.fault(0), 1);
        Check.due("no image has it", x.fault(1), 0);
    }

    private static void wrong(String text, int which, int place) {
        CutInMay x = new CutInMay();
        Check.due(text, Check.say(x, text), -1);
        Check.due(text + " (its fault)", x.fault(0), which);
        Check.due(text + " (its place)", x.fault(1), place);
    }

    private static void right(String text) {
        CutInMay x = new CutInMay();
        Check.due(text, Check.say(x, text), 0);
        Check.due(text + " (no fault)", x.fault(0), 0);
    }

    private static void faults() {
        Check.promise("II faults");
        // The mark stands at the first byte of the wrong token.
        String[] cantStand = {
            "|foo", "|1", "|;", "saw |;", "saw |", "saw 1 |", "saw 1|,", "pond 2 |2;", "pond 2 by |by 3;", "sight 1 |to 1,1:1,1 deep 1;",
            "sight 1 at 1|:1:1,1 deep 1;", "sight 1 at 1,1|,1,1 deep 1;", "sight 1 at 1,1:1|:1 deep 1;", "sight 1 at 1,1:1,1 |at 1;",
            "straw 1 |at 1;", "day |x;", "day |-1;", "sell 1|)", "melts |;", "melts 1 |1;", "melts 1 |10000;", "melts (1|;", "melts 1|);",
            "melts |foo", "rots |Day;", "melts |melts;", "melts 1+|+1;", "melts 1*|/1;", "melts |*1;", "melts 1|<=2;", "melts 1|>=2;",
            "melts 1|=2;", "melts |#;", "melts nth |of (1);", "melts nth 1 |to (1);", "melts nth 1 of |1;", "melts nth 1 of (|);",
            "melts nth 1 of (1|;", "melts nth 1 of (1,|);", "melts nth 1 of (1|:2);", "melts nth 1|+", "melts nth 1|+1 of (1);",
            "melts -|;", "melts -|", "melts 1;|\t", "|\u0000", "|\u00e9", "saw 1;|by", "|heat 1;", "|nth", "|meltss 1;", "|melt 1;",
            "|sights 1;", "|meltsZ 1;", "|meltsA 1;", "|meltsz 1;", "|meltsa 1;", "saw|@1;", "saw|[1;", "saw|`1;", "saw|{1;", "saw |/1;",
            "saw |:1;", "saw 1|!", "saw 1|\u0000;", "saw 1;|\r", "|abcmelts 1;", "|aaaaaaaaaaaaaaaamelts 1;", "melts |sells;", "pond2 |2;"
        };
        for (String text : cantStand) wrong(text.replace("|", ""), 1, text.indexOf('|'));
        String[] numbers = {
            "pond |1 by 2;", "pond |9 by 2;", "pond 2 by |1;", "pond 2 by |9;", "pond |10000 by 2;", "sight |10 at 0,0:1,1 deep 0;",
            "sight 9 at |8,0:1,1 deep 0;", "sight 9 at 7,|8:1,1 deep 0;", "sight 9 at 7,7:|0,1 deep 0;", "sight 9 at 7,7:|4,1 deep 0;",
            "sight 9 at 7,7:3,|0 deep 0;", "sight 9 at 7,7:3,|4 deep 0;", "sight 9 at 7,7:3,3 deep |10;", "saw |7;", "cross |7;",
            "straw |0 to 1;", "straw |10 to 1;", "straw 9 to |64;", "day |0;", "day |61;", "sell |64;", "melts |10000;",
            "melts 1+|99999999999999999999;", "sell |4294967296;", "sells nth |10000 of (1);"
        };
        for (String text : numbers) wrong(text.replace("|", ""), 2, text.indexOf('|'));
        wrong("melts (((((((((1)))))))));", 3, 14);
        wrong("melts ---------1;", 3, 14);
        wrong("melts (((((((-nth 1 of (1))))))));", 3, 14);
        wrong("melts (((((((nth -1 of (1))))))));", 3, 17);
        wrong("melts (((((((nth 1 of ((1))))))))));", 3, 23);
        wrong("melts 1;sells 1;rots 1;sells 2;", 4, 23);
        wrong("rots 1;rots 2;", 4, 7);
        wrong("melts 1;" + "saw 0;".repeat(23) + "melts 1;", 4, 146);
        for (String law : new String[] {"melts", "rots"}) {
            for (String name : new String[] {"sights", "kinds"}) wrong(law + " day+" + name + ";", 5, law.length() + 5);
        }
        wrong("saw 0;".repeat(24) + " saw 99", 6, 145);
        wrong("saw 0;".repeat(24) + " foo", 1, 145);
        wrong("sells nth 1 of (1,1,1,1,1,1, kinds);", 7, 29);
        wrong("melts nth 1 of (1,1,1,1,1,1,(1));", 7, 28);
        wrong("melts nth 1 of (1,1,1,1,1,1,-1);", 7, 28);
        wrong("melts nth 1 of (1,1,1,1,1,1,foo);", 1, 28);
        wrong("melts nth 1 of (1,1,1,1,1,1", 1, 27);
        wrong("melts (((((((nth 1 of (1,1,1,1,1,1,(1))))))))));", 3, 35);
        right("melts nth 1 of (1,nth 1 of (1,2,3,4,5,6),3,4,5,6);");
        right("melts ((((((((1))))))))+((((((((1))))))))+--------1;");
        right("melts (((((((nth 1 of (day)))))))) ;");
        right("sells sights+kinds+day+heat+size+straw+melted+edge;");
        right("pond8by2;sight9at7,7:3,3deep9;saw6;cross0;straw9to63;day60;sell63;");
        right("melts 00009999;rots 9999*9999;");
        right("sight 0 at 0,0:1,1 deep 0;straw 1 to 0;day 1;sell 0;pond 2 by 8;");
    }

    private static void by() {
        Check.promise("8 by");
        CutInMay x = new CutInMay();
        Check.due("none is none", x.by(-1), true);
        Check.due("there is none yet", x.by(0), false);
        Check.say(x, "melts 7;sells 8;");
        Check.say(x, "melts 9;");
        Check.due("told alone, it doesn't rule", x.block(0, 9), 4);
        Check.due("others", x.by(2), false);
        Check.due("others", x.by(-2), false);
        Check.due("the first", x.by(0), true);
        Check.due("which", x.about(2), 0);
        Check.due("its law", x.block(0, 9), 7);
        Check.due("its law", x.block(0, 10), 8);
        Check.due("the second", x.by(1), true);
        Check.due("its law", x.block(0, 9), 9);
        Check.due("without a law of its own", x.block(0, 10), 10);
        Check.due("others", x.by(4), false);
        Check.due("which still", x.about(2), 1);
        Check.due("none", x.by(-1), true);
        Check.due("which", x.about(2), -1);
        Check.due("as ever", x.block(0, 9), 4);
    }

    private static void sells(String sum, int due) {
        CutInMay x = Check.pond(4, 3, 0b100, 0b01);
        x.sight(2, 0, 0, 1, 2, 0);
        x.sight(2, 1, 1, 1, 1, 0);
        x.sight(3, 3, 2, 1, 1, 0);
        x.straw(2, 2);
        x.day(2);
        Check.say(x, "sells " + sum + ";");
        x.by(0);
        Check.due("sells " + sum, x.block(2, 10), due);
    }

    private static void laws() {
        Check.promise("II laws");
        // Of block 2: DAY 2, HEAT 2, 6 cells, STRAW 2, MELTED 0+3, EDGE 2, 2 SIGHTS of one KIND.
        String[] names = {"day", "heat", "size", "straw", "melted", "edge", "sights", "kinds"};
        int[] due = {2, 2, 6, 2, 3, 2, 2, 1};
        for (int i = 0; i < names.length; i++) sells(names[i], due[i]);
        sells("7-2-1", 4);
        sells("24/4/2", 3);
        sells("2+3*4", 14);
        sells("(2+3)*4", 20);
        sells("7/2*2", 6);
        sells("10-7/2", 7);
        sells("10+-7/2", 7);
        sells("-7/-2", 3);
        sells("5/0+3", 3);
        sells("9999", 9999);
        sells("9999+1", 9999);
        sells("0-5", 0);
        sells("--5", 5);
        sells("-3*-4", 12);
        sells("9999*9999/1000", 1000);
        sells("-9999*9999/1000+1001", 1);
        sells("9999*100+9999+9999-1000*1000+5", 5);
        sells("(500*2000+1)/1000", 1000);
        sells("-(500*2000+1)-1+1000*1000+1", 1);
        sells("nth 1 of (11,22,33)", 11);
        sells("nth 2 of (11,22,33)", 22);
        sells("nth 3 of (11,22,33)", 33);
        sells("nth 4 of (11,22,33)", 33);
        sells("nth 0 of (11,22,33)", 11);
        sells("nth -5 of (11,22,33)", 11);
        sells("nth (9999*9999) of (1,2,3,4,5,6)", 6);
        sells("nth 6 of (1,2,3,4,5,6)", 6);
        sells("nth 5 of (1,2,3,4,5,6)", 5);
        sells("nth 1 of (9)", 9);
        sells("1+nth 2 of (1,2+3,4)*10", 51);
        sells("nth nth 2 of (1,3) of (5,6,7)", 7);
        sells("nth 2 of (1,nth melted of (1,2,44),9)+1", 45);
        sells("100-nth 2 of (nth 9 of (1,2),3-1,4)*nth 1 of (5,6)", 90);
        held();
    }

    private static void held() {
        Check.promise("II held");
        CutInMay x = new CutInMay();
        x.straw(9, 0);
        Check.say(x, "melts 101;sells 9999+1;rots 10;");
        Check.say(x, "melts 0-1;sells 0-1;rots 0-1;");
        x.by(0);
        Check.due("melts 100 at most", x.block(0, 9), 100);
        Check.due("sells 9999 at most", x.block(0, 10), 9999);
        x.by(1);
        Check.due("melts 0 at least", x.block(0, 9), 0);
        Check.due("sells 0 at least", x.block(0, 10), 0);
        x.day(1);
        Check.due("rots 0 at least", x.block(0, 4), 9);
        x.by(0);
        x.day(1);
        Check.due("rots 9 at most", x.block(0, 4), 0);
        Check.due("none comes back", x.is(3), 11);
        Check.due("melted to 100", x.block(0, 5), 100);
        Check.due("without, it sells for nothing", x.by(-1) ? x.block(0, 10) : -5, 0);
    }
}
