import java.util.Random;

/** Long runs of random calls, which the class must answer as its plain likeness does. */
public final class LikenessTest {
    private static final String[] STEPS = {"saw", "straw", "day", "sell", "played", "summer", "undo"};
    private static final String[] ALL = {
        "pond", "sight", "feed", "end", "text", "fault", "by", "saw", "straw", "day", "sell", "played", "summer", "undo",
        "block", "blockOf", "ofSight", "is", "whole", "sawing", "foretold", "showsIn", "dearest", "together", "ice", "gone",
        "litter", "lasts", "sellFirst", "order", "served", "glass", "layers", "bid", "auction", "lies", "kiss", "unseen",
        "measure", "speed", "sellers", "strawBest", "melt", "whoseLaw", "image", "back", "about"
    };

    private final Random random;
    private final RandomTexts texts;
    private final Calls real = new Calls(new CutInMay());
    private final Calls plain = new Calls(new PlainPond());
    private final StringBuilder told = new StringBuilder();
    private final boolean wild;
    private final boolean calm;
    private final int lines;
    private final int days;
    private final int kinds;
    private final int widest;
    private int calls;
    private boolean good = true;

    private LikenessTest(int run) {
        random = new Random(run);
        texts = new RandomTexts(random);
        wild = run % 10 == 9;
        calm = run % 3 > 0;
        lines = random.nextInt(random.nextInt(4) == 0 ? 40 : 10);
        kinds = 1 + random.nextInt(4);
        widest = 1 + random.nextInt(3);
        days = calm ? 2 : random.nextInt(4) == 0 ? 60 : 4;
    }

    private void call(String name, int... numbers) {
        if (!good || calls == 512) return;
        calls++;
        long due = plain.answer(name, numbers);
        long got = real.answer(name, numbers);
        told.append("  ").append(name).append(java.util.Arrays.toString(numbers)).append(" -> ").append(got).append('\n');
        if (got != due) {
            good = false;
            told.append("  due is ").append(due).append('\n');
        }
    }

    private void tell(String text) {
        call("end", 0);
        for (int[] five : Calls.feeds(text)) call("feed", five);
        call("end", text.length());
        told.append("    ").append(text).append('\n');
        call("text");
        call("fault", 0);
        call("fault", 1);
    }

    private int any(int least, int most) {
        int chance = random.nextInt(wild ? 12 : 150);
        if (chance == 0) return least - 1;
        if (chance == 1) return most + 1;
        if (chance == 2 && wild) return random.nextInt();
        if (chance == 3 && wild) return random.nextBoolean() ? Integer.MIN_VALUE : Integer.MAX_VALUE;
        return least + random.nextInt(most - least + 1);
    }

    private int block() {
        return any(0, random.nextInt(20) == 0 ? 63 : (int) plain.answer("is", 9) - 1);
    }

    private int sight() {
        return any(0, random.nextInt(20) == 0 ? 11 : Math.max(0, (int) plain.answer("about", 0) - 1));
    }

    private int dayNear() {
        return any(0, random.nextInt(3) == 0 ? 70 : 6) + (int) plain.answer("is", 0);
    }

    private int[] numbers(String name) {
        switch (name) {
            case "pond": return new int[] {any(2, 8), any(2, 8)};
            case "sight": return new int[] {any(0, kinds - 1), any(0, (int) plain.answer("is", 7) - 1),
                any(0, (int) plain.answer("is", 8) - 1), any(1, widest), any(1, widest), any(0, 9)};
            case "feed": return new int[] {random.nextInt(), random.nextInt(), random.nextInt(), random.nextInt(), random.nextInt()};
            case "end": return new int[] {any(0, 20)};
            case "by": return new int[] {any(-1, 2)};
            case "saw": return new int[] {any(0, 6), random.nextInt(2)};
            case "straw": return new int[] {any(-3, 5), block()};
            case "day": return new int[] {any(1, days)};
            case "played": return new int[] {any(0, 2)};
            case "summer": return new int[] {any(0, 9999), any(1, calm ? 5 : 40)};
            case "block": return new int[] {block(), any(0, 10)};
            case "blockOf": return new int[] {any(0, 7), any(0, 7)};
            case "ofSight": return new int[] {sight(), any(0, 7)};
            case "sawing": return new int[] {random.nextInt(4) == 0 ? 0 : any(0, (1 << plain.answer("about", 0)) - 1),
                any(1, random.nextInt(3) == 0 ? 64 : 8), any(0, 2)};
            case "foretold": return new int[] {any(1, random.nextBoolean() ? 60 : 5), random.nextInt(3) == 0 ? -1 : block()};
            case "lasts": return new int[] {block(), any(0, 4), random.nextInt(2)};
            case "order": return new int[] {any(0, random.nextInt(30) == 0 ? 9 : kinds - 1), dayNear(), any(1, random.nextBoolean() ? 99 : 4)};
            case "served": return new int[] {any(-1, 4)};
            case "glass": return new int[] {any(0, 2), any(0, random.nextInt(9) == 0 ? 63 : 2), any(0, 100), random.nextInt(2)};
            case "layers": return new int[] {any(0, 2), any(0, random.nextInt(9) == 0 ? 63 : 2)};
            case "bid": return new int[] {any(0, random.nextBoolean() ? 999 : 5)};
            case "kiss": return new int[] {sight(), block(), random.nextInt(2)};
            case "unseen": return new int[] {any(0, random.nextInt(9) == 0 ? 9 : kinds), random.nextInt(2)};
            case "measure": return new int[] {any(0, random.nextBoolean() ? 999 : 6), any(0, 100)};
            case "strawBest": return new int[] {any(0, 9), any(1, 20)};
            case "melt": return melting();
            case "showsIn": return new int[] {sight()};
            case "ice": return new int[] {random.nextInt(2)};
            case "sellFirst": return new int[] {any(0, 4)};
            case "dearest": return new int[] {any(0, 12)};
            case "speed": return new int[] {any(0, 3)};
            case "auction": case "sellers": case "fault": return new int[] {any(0, 1)};
            case "lies": return new int[] {any(0, 7)};
            case "is": case "about": return new int[] {any(0, 9)};
            default: return new int[real.parameters(name)].length == 0 ? new int[0] : new int[] {block()};
        }
    }

    /** Mostly what the block would really melt by the ruling law, so that laws are told apart. */
    private int[] melting() {
        int block = block();
        if (random.nextInt(3) == 0) return new int[] {block, any(0, 9), any(0, 9), any(0, 100)};
        return new int[] {block, (int) plain.answer("is", 1), (int) plain.answer("block", block, 4), (int) plain.answer("block", block, 9)};
    }

    private void begin() {
        if (random.nextInt(8) > 0) call("pond", numbers("pond"));
        int sights = random.nextInt(11);
        for (int i = 0; i < sights; i++) call("sight", numbers("sight"));
        for (int i = 0; i < lines; i++) call("saw", numbers("saw"));
        if (random.nextInt(4) > 0) {
            tell(calm ? texts.mild() : texts.next());
            call("by", 0);
        }
        String[] told = {"order", "glass", "bid", "measure", "melt"};
        int more = random.nextInt(20);
        for (int i = 0; i < more; i++) {
            String name = told[random.nextInt(told.length)];
            call(name, numbers(name));
        }
        call("image");
    }

    /** Steps only wear the ice down, so calm runs go back again and again. */
    private void step() {
        if (calm && random.nextInt(6) == 0) {
            call("back");
        } else if (calm && random.nextInt(3) == 0) {
            call("straw", numbers("straw"));
        } else {
            String name = STEPS[random.nextInt(STEPS.length)];
            call(name, numbers(name));
        }
    }

    private void lookAround() {
        for (int what = 0; what < 10; what++) {
            call("is", what);
            call("about", what);
        }
        for (int what = 0; what <= 10; what++) call("block", block(), what);
    }

    private boolean run() {
        begin();
        while (good && calls < 512) {
            int chance = random.nextInt(100);
            if (chance < 2) {
                tell(calm && random.nextBoolean() ? texts.mild() : texts.next());
            } else if (chance < 3) {
                lookAround();
            } else if (chance < 20) {
                step();
            } else {
                String name = ALL[random.nextInt(ALL.length)];
                boolean seldom = name.equals("back") || name.equals("image") || name.equals("feed") || name.equals("text")
                        || calm && (name.equals("summer") || name.equals("sell") || name.equals("played") || name.equals("day"));
                if (!seldom || random.nextInt(4) == 0) call(name, numbers(name));
            }
        }
        return good;
    }

    public static void main(String[] args) {
        int runs = args.length > 0 ? Integer.parseInt(args[0]) : 600;
        int first = args.length > 1 ? Integer.parseInt(args[1]) : 0;
        int wrong = 0;
        for (int run = first; run < first + runs && wrong < 3; run++) {
            LikenessTest test = new LikenessTest(run);
            if (!test.run()) {
                wrong++;
                System.out.println("run " + run + ":\n" + test.told);
            }
        }
        System.out.println(wrong == 0 ? runs + " runs are alike" : wrong + " runs are not alike");
        if (wrong != 0) System.exit(1);
    }
}
