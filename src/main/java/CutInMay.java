import java.util.Arrays;

/**
 * A pond is sawn into blocks of ice, which are laid in straw and sold down the summer; each shows, as it
 * melts, what was over it that winter. Every promise is in the project's document.
 */
public final class CutInMay {
    public static final int NONE = -1;

    private static final int REFUSED = -2;
    private static final int NO_NUMBER = -100000;

    private static final int BLOCKS = 64;
    private static final int SIGHTS = 12;
    private static final int TEXTS = 4;
    private static final int KINDS = 10;
    private static final int LAYERS = 10;
    private static final int SIDE = 8;
    private static final int MOST_STRAW = 9;
    private static final int MOST_HEAP = 99;
    private static final int MOLTEN = 100;
    private static final int LAST_DAY = 999;
    private static final int MOST_DAYS = 60;
    private static final int MOST_ODDS_DAYS = 4;
    private static final int SELLERS_BLOCKS = 16;

    private static final int SIGHT_ROW = 6;
    private static final int KIND = 0;
    private static final int COLUMN = 1;
    private static final int ROW = 2;
    private static final int WIDE = 3;
    private static final int HIGH = 4;
    private static final int LAYER = 5;

    // Words by their place in Reader.WORDS: the clauses come first, the NAMES in one run (straw and day are both).
    private static final int MELTS = 0;
    private static final int SELLS = 1;
    private static final int ROTS = 2;
    private static final int POND = 3;
    private static final int SIGHT = 4;
    private static final int SAW = 5;
    private static final int CROSS = 6;
    private static final int SELL = 7;
    private static final int STRAW = 8;
    private static final int DAY = 9;

    private final World now = new World();
    private final World kept = new World();
    private final Rooms rooms = new Rooms();
    private final Reader reader = new Reader();
    private final Course course = new Course(now, rooms, new Laws());
    private final Odds odds = new Odds(course);
    private final Serving serving = new Serving(now, rooms, course);
    private final int[] worth = new int[BLOCKS];
    private final int[] lead = new int[SELLERS_BLOCKS];
    private final int[] levelFor = new int[SIDE + 1];

    public CutInMay() {
        rooms.lay(now);
    }

    // ---- the pond, its sights and the texts

    public boolean pond(int wide, int high) {
        if (!within(wide, 2, SIDE) || !within(high, 2, SIDE)) {
            return false;
        }
        if (now.told || now.yard.upright != 0 || now.yard.level != 0) {
            return false;
        }
        now.told = true;
        now.wide = wide;
        now.high = high;
        rooms.lay(now);
        return true;
    }

    public int sight(int kind, int column, int row, int wide, int high, int layer) {
        boolean right = within(kind, 0, KINDS - 1) && within(layer, 0, LAYERS - 1)
                && within(wide, 1, 3) && within(high, 1, 3)
                && within(column, 0, now.wide - wide) && within(row, 0, now.high - high);
        int at = now.sightCount * SIGHT_ROW;
        if (!right || at + SIGHT_ROW > now.sights.length) {
            return NONE;
        }
        now.sights[at + KIND] = kind;
        now.sights[at + COLUMN] = column;
        now.sights[at + ROW] = row;
        now.sights[at + WIDE] = wide;
        now.sights[at + HIGH] = high;
        now.sights[at + LAYER] = layer;
        now.sightCount++;
        return now.sightCount - 1;
    }

    public int feed(int a, int b, int c, int d, int e) {
        if (!reader.hasRoom(20)) {
            return NONE;
        }
        reader.append(a);
        reader.append(b);
        reader.append(c);
        reader.append(d);
        reader.append(e);
        return reader.length;
    }

    public int end(int n) {
        if (!within(n, 0, reader.length)) {
            return NONE;
        }
        reader.length = n;
        return n;
    }

    public int text() {
        int number = now.textCount;
        if (!within(number, 0, now.texts.length - 1)) {
            return NONE;
        }
        Text read = reader.read();
        if (read == null) {
            return NONE;
        }
        now.texts[number] = read;
        now.textCount = number + 1;
        return number;
    }

    public int fault(int what) {
        if (what == 0) {
            return reader.fault;
        }
        return what == 1 ? reader.place : NONE;
    }

    public boolean by(int text) {
        if (text != NONE && now.textAt(text) == null) {
            return false;
        }
        now.ruling = text;
        return true;
    }

    // ---- steps

    public int saw(int line, boolean upright) {
        return sawThrough(line, upright) ? rooms.count : NONE;
    }

    public int straw(int n, int block) {
        return layByHand(n, block) ? now.yard.strawOn(block) : NONE;
    }

    public int day(int n) {
        if (!within(n, 1, MOST_DAYS) || now.yard.day + n > LAST_DAY) {
            return NONE;
        }
        passDays(n);
        return now.yard.heat;
    }

    public int sell(int block) {
        return sellByHand(block);
    }

    public int played(int text) {
        Text script = now.textAt(text);
        if (script == null) {
            return REFUSED;
        }
        for (int clause = 0; clause < script.count; clause++) {
            if (!perform(script, clause)) {
                return clause;
            }
        }
        return NONE;
    }

    public int summer(int seed, int n) {
        if (!within(seed, 0, 9999) || !within(n, 1, 40)) {
            return NONE;
        }
        Yard yard = now.yard;
        now.steps.keep(yard);
        yard.x = seed * 3 + 73;
        for (int turn = 0; turn < n; turn++) {
            int x = yard.draw();
            int block = rooms.count > 0 ? x % rooms.count : 0;
            if (x % 4 == 0 && canLay(1, block)) {
                layStraw(1, block);
            } else if (x % 4 == 1 && canSell(block)) {
                sellOff(block);
            } else if (x % 4 > 1 && yard.day < LAST_DAY) {
                passDay();
            }
        }
        return yard.pence;
    }

    public int undo() {
        if (!now.steps.takeBack(now.yard)) {
            return NONE;
        }
        rooms.lay(now);
        return now.steps.count;
    }

    // ---- what is

    public int block(int block, int what) {
        if (!isBlock(block)) {
            return NONE;
        }
        switch (what) {
            case 0: return rooms.leftOf(block);
            case 1: return rooms.topOf(block);
            case 2: return rooms.wideOf(block);
            case 3: return rooms.highOf(block);
            case 4: return now.yard.strawOn(block);
            case 5: return now.yard.meltedOf(block);
            case 6: return bit(now.yard.isSold(block));
            case 7: return rooms.edgeOf(block);
            case 8: return rooms.sightsIn(now, block);
            case 9: return meltsNow(block);
            case 10: return sellsNow(block);
            default: return NONE;
        }
    }

    public int blockOf(int column, int row) {
        for (int block = 0; block < rooms.count; block++) {
            int right = column - rooms.leftOf(block);
            int down = row - rooms.topOf(block);
            if (within(right, 0, rooms.wideOf(block) - 1) && within(down, 0, rooms.highOf(block) - 1)) {
                return block;
            }
        }
        return NONE;
    }

    public int ofSight(int sight, int what) {
        if (!isSight(sight)) {
            return NONE;
        }
        if (within(what, 0, SIGHT_ROW - 1)) {
            return now.sightPart(sight, what);
        }
        if (what == 6) {
            return wholeSights() >> sight & 1;
        }
        return what == 7 ? showingNow() >> sight & 1 : NONE;
    }

    public int is(int what) {
        Yard yard = now.yard;
        switch (what) {
            case 0: return yard.day;
            case 1: return yard.heat;
            case 2: return yard.pence;
            case 3: return yard.heap;
            case 4: return yard.x;
            case 5: return yard.upright;
            case 6: return yard.level;
            case 7: return now.wide;
            case 8: return now.high;
            case 9: return rooms.count;
            default: return REFUSED;
        }
    }

    // ---- what can be asked, changing nothing

    public int whole() {
        return wholeSights();
    }

    public int sawing(int sights, int m, int what) {
        boolean right = within(sights, 0, (1 << now.sightCount) - 1) && within(m, 1, BLOCKS) && within(what, 0, 2);
        if (!right) {
            return NONE;
        }
        int shutUpright = linesThrough(sights, true);
        findLevelSets(linesThrough(sights, false));
        int most = NONE;
        int bestUpright = NONE;
        int bestLevel = NONE;
        for (int set = 0; set < 1 << (now.wide - 1); set++) {
            int level = (set & shutUpright) == 0 ? levelSetFor(narrowest(set, now.wide), m) : NONE;
            int made = level == NONE ? NONE : (Integer.bitCount(set) + 1) * (Integer.bitCount(level) + 1);
            if (made > most) {
                most = made;
                bestUpright = set;
                bestLevel = level;
            }
        }
        if (what == 0) {
            return most;
        }
        return what == 1 ? bestUpright : bestLevel;
    }

    public int foretold(int n, int block) {
        if (!within(n, 1, MOST_DAYS) || block != NONE && !isBlock(block)) {
            return NONE;
        }
        if (block == NONE) {
            return showingBehind(n);
        }
        course.start(block);
        course.run(n);
        return course.melted;
    }

    public int showsIn(int sight) {
        if (!isSight(sight)) {
            return NONE;
        }
        int first = MOST_DAYS + 1;
        for (int block = 0; block < rooms.count; block++) {
            if (rooms.cellsOf(now, sight, block) > 0) {
                first = Math.min(first, course.daysUntilAbove(block, now.sightPart(sight, LAYER) * 10));
            }
        }
        return first > MOST_DAYS ? NONE : first;
    }

    public int dearest(int i) {
        for (int block = 0; block < rooms.count && block < worth.length; block++) {
            worth[block] = canSell(block) ? sellsNow(block) : NONE;
        }
        for (int block = 0; block < rooms.count && block < worth.length; block++) {
            if (worth[block] != NONE && manyAhead(block, worth[block]) == i) {
                return block;
            }
        }
        return NONE;
    }

    public int together(int block) {
        if (!isBlock(block)) {
            return NONE;
        }
        int sights = rooms.sightsIn(now, block);
        int twos = 0;
        for (int one = 0; one < now.sightCount; one++) {
            for (int other = one + 1; other < now.sightCount; other++) {
                boolean both = (sights >> one & 1) == 1 && (sights >> other & 1) == 1;
                if (both && now.sightPart(one, KIND) != now.sightPart(other, KIND)
                        && now.sightPart(one, LAYER) == now.sightPart(other, LAYER)) {
                    twos++;
                }
            }
        }
        return twos;
    }

    public int ice(boolean sold) {
        int cells = 0;
        for (int block = 0; block < rooms.count; block++) {
            if (now.yard.isSold(block) == sold) {
                cells += rooms.sizeOf(block);
            }
        }
        return cells;
    }

    public int gone() {
        int blocks = 0;
        for (int block = 0; block < rooms.count; block++) {
            blocks += bit(now.yard.meltedOf(block) >= MOLTEN);
        }
        return blocks;
    }

    public int litter() {
        int lying = 0;
        for (int block = 0; block < rooms.count; block++) {
            lying += now.yard.strawOn(block);
        }
        return lying;
    }

    public long lasts(int block, int n, boolean low) {
        if (!isBlock(block) || !within(n, 0, MOST_ODDS_DAYS)) {
            return NONE;
        }
        int upper = odds.lasting(block, n);
        int lower = odds.ofAll(n);
        return (low ? lower : upper) / divisor(upper, lower);
    }

    public int sellFirst(int n) {
        if (!within(n, 0, MOST_ODDS_DAYS)) {
            return NONE;
        }
        int first = NONE;
        int least = 0;
        for (int block = 0; block < rooms.count; block++) {
            if (canSell(block) && !hasLikeBefore(block)) {
                int lasting = odds.lasting(block, n);
                if (first == NONE || lasting < least) {
                    first = block;
                    least = lasting;
                }
            }
        }
        return first;
    }

    public int order(int kind, int due, int pence) {
        if (kind == NONE) {
            return now.orders.none();
        }
        if (!within(kind, 0, KINDS - 1) || !within(due, 0, LAST_DAY) || !within(pence, 1, 99)) {
            return REFUSED;
        }
        return now.orders.add(kind, due, pence, 0);
    }

    public int served(int order) {
        if (!within(order, NONE, now.orders.count - 1)) {
            return REFUSED;
        }
        serving.settle();
        return order == NONE ? serving.most : serving.blockFor(order);
    }

    public int glass(int kind, int block, int melted, boolean seen) {
        if (kind == NONE) {
            return now.glasses.none();
        }
        if (!within(kind, 0, KINDS - 1) || !within(block, 0, BLOCKS - 1) || !within(melted, 0, MOLTEN)) {
            return REFUSED;
        }
        return now.glasses.add(kind, block, melted, bit(seen));
    }

    public int layers(int kind, int block) {
        if (!within(kind, 0, KINDS - 1) || !within(block, 0, BLOCKS - 1)) {
            return NONE;
        }
        int may = 0;
        for (int layer = 0; layer < LAYERS; layer++) {
            may |= bit(mayLie(kind, block, layer)) << layer;
        }
        return may;
    }

    public int bid(int bid) {
        if (bid == NONE) {
            return now.bids.none();
        }
        return within(bid, 0, 999) ? now.bids.add(bid, 0, 0, 0) : REFUSED;
    }

    public int auction(int what) {
        if (now.bids.count == 0 || !within(what, 0, 1)) {
            return NONE;
        }
        int winner = winner();
        return what == 0 ? winner : highestBut(winner);
    }

    public int lies(int k) {
        if (!within(k, 0, now.bids.count - 1)) {
            return REFUSED;
        }
        int gain = now.bids.part(k, 0) - highestBut(k);
        int byItsOwn = winner() == k ? gain : 0;
        // What one pays is the highest other BID whatever one's own is, so a lie changes only whether one gets it.
        return Math.max(gain, 0) - byItsOwn;
    }

    public int kiss(int sight, int block, boolean low) {
        if (!isSight(sight) || !isBlock(block)) {
            return NONE;
        }
        int part = rooms.cellsOf(now, sight, block);
        int all = now.sightPart(sight, WIDE) * now.sightPart(sight, HIGH);
        return (low ? all : part) / divisor(part, all);
    }

    public int unseen(int kind, boolean shows) {
        if (!within(kind, 0, KINDS - 1)) {
            return NONE;
        }
        int sights = sightsOf(kind);
        if (shows) {
            return bit((showingNow() & sights) != 0);
        }
        int pence = 0;
        for (int block = 0; block < rooms.count; block++) {
            if (!now.yard.isSold(block) && (rooms.sightsIn(now, block) & sights) != 0) {
                pence += sellsNow(block);
            }
        }
        return pence;
    }

    public int measure(int day, int melted) {
        if (day == NONE) {
            return now.measures.none();
        }
        if (!within(day, 0, LAST_DAY) || !within(melted, 0, MOLTEN)) {
            return REFUSED;
        }
        return now.measures.add(day, melted, 0, 0);
    }

    public int speed(int what) {
        int upper = 0;
        int lower = 0;
        for (int one = 0; one < now.measures.count; one++) {
            for (int other = 0; other < now.measures.count; other++) {
                int days = now.measures.part(other, 0) - now.measures.part(one, 0);
                int more = now.measures.part(other, 1) - now.measures.part(one, 1);
                int ahead = more * lower - upper * days;
                if (days > 0 && (lower == 0 || (what < 2 ? ahead > 0 : ahead < 0))) {
                    upper = more;
                    lower = days;
                }
            }
        }
        if (lower == 0 || !within(what, 0, 3)) {
            return NO_NUMBER;
        }
        return (what % 2 == 0 ? upper : lower) / divisor(upper, lower);
    }

    public int sellers(int what) {
        int many = 0;
        for (int block = 0; block < rooms.count && many < SELLERS_BLOCKS; block++) {
            if (!now.yard.isSold(block)) {
                worth[many] = sellsNow(block);
                many++;
            }
        }
        if (many == 0 || !within(what, 0, 1)) {
            return NO_NUMBER;
        }
        return bestPlay(many, what == 1);
    }

    public int strawBest(int n, int m) {
        if (!within(n, 0, MOST_STRAW) || !within(m, 1, 20)) {
            return NONE;
        }
        int best = NONE;
        int most = 0;
        for (int block = 0; block < rooms.count; block++) {
            if (!now.yard.isSold(block)) {
                // The straw changes what comes of this one alone, so its own gain tells as much as all together.
                int gain = course.penceBehind(block, n, m) - course.penceBehind(block, 0, m);
                if (best == NONE || gain > most) {
                    best = block;
                    most = gain;
                }
            }
        }
        return best;
    }

    public int melt(int block, int heat, int straw, int melts) {
        if (block == NONE) {
            return now.melts.none();
        }
        boolean right = isBlock(block) && within(heat, 0, 9) && within(straw, 0, MOST_STRAW)
                && within(melts, 0, MOLTEN);
        return right ? now.melts.add(block, heat, straw, melts) : REFUSED;
    }

    public int whoseLaw() {
        int texts = 0;
        for (int text = 0; text < now.textCount; text++) {
            texts |= bit(allSoBy(now.textAt(text))) << text;
        }
        return texts;
    }

    // ---- the image

    public int image() {
        kept.become(now);
        return now.yard.day;
    }

    public int back() {
        now.become(kept);
        rooms.lay(now);
        return now.yard.day;
    }

    public int about(int what) {
        switch (what) {
            case 0: return now.sightCount;
            case 1: return now.textCount;
            case 2: return now.ruling;
            case 3: return now.steps.count;
            case 4: return now.orders.count;
            case 5: return now.glasses.count;
            case 6: return now.bids.count;
            case 7: return now.measures.count;
            case 8: return now.melts.count;
            case 9: return reader.length;
            default: return REFUSED;
        }
    }

    // ---- steps, by hand and by scripts

    private boolean perform(Text script, int clause) {
        int first = script.part(clause, 1);
        int second = script.part(clause, 2);
        switch (script.part(clause, 0)) {
            case POND: return pond(first, second);
            case SIGHT: return sight(first, second, script.part(clause, 3), script.part(clause, 4),
                    script.part(clause, 5), script.part(clause, 6)) != NONE;
            case SAW: return sawThrough(first, true);
            case CROSS: return sawThrough(first, false);
            case STRAW: return layByHand(first, second);
            case DAY: return passDays(first);
            case SELL: return sellByHand(first) != NONE;
            default: return true;
        }
    }

    private boolean sawThrough(int line, boolean upright) {
        Yard yard = now.yard;
        if (!within(line, 0, (upright ? now.wide : now.high) - 2)) {
            return false;
        }
        boolean sawn = ((upright ? yard.upright : yard.level) >> line & 1) == 1;
        if (sawn || !yard.isUntouched()) {
            return false;
        }
        now.steps.keep(yard);
        if (upright) {
            yard.upright |= 1 << line;
        } else {
            yard.level |= 1 << line;
        }
        rooms.lay(now);
        return true;
    }

    private boolean canLay(int n, int block) {
        if (!isBlock(block) || !within(n, -MOST_STRAW, MOST_STRAW) || n == 0 || now.yard.isSold(block)) {
            return false;
        }
        return within(now.yard.strawOn(block) + n, 0, MOST_STRAW) && within(now.yard.heap - n, 0, MOST_HEAP);
    }

    private void layStraw(int n, int block) {
        Yard yard = now.yard;
        yard.heap -= n;
        yard.put(block, yard.strawOn(block) + n, yard.meltedOf(block), false);
    }

    private boolean layByHand(int n, int block) {
        if (!canLay(n, block)) {
            return false;
        }
        now.steps.keep(now.yard);
        layStraw(n, block);
        return true;
    }

    private void passDay() {
        Yard yard = now.yard;
        for (int block = 0; block < rooms.count; block++) {
            course.start(block);
            course.run(1);
            yard.put(block, course.straw, course.melted, course.sold);
        }
        yard.day++;
        yard.heat = yard.draw() % 10;
    }

    /** Passes what can pass of so many DAYS: whether all did. */
    private boolean passDays(int n) {
        for (int day = 0; day < n; day++) {
            if (now.yard.day >= LAST_DAY) {
                return false;
            }
            now.steps.keep(now.yard);
            passDay();
        }
        return true;
    }

    private boolean canSell(int block) {
        return isBlock(block) && !now.yard.isSold(block) && now.yard.meltedOf(block) < MOLTEN;
    }

    private int sellOff(int block) {
        Yard yard = now.yard;
        course.start(block);
        int pence = course.sellsAt();
        yard.pence += pence;
        yard.heap = Math.min(MOST_HEAP, yard.heap + yard.strawOn(block));
        yard.put(block, 0, yard.meltedOf(block), true);
        return pence;
    }

    private int sellByHand(int block) {
        if (!canSell(block)) {
            return NONE;
        }
        now.steps.keep(now.yard);
        return sellOff(block);
    }

    // ---- blocks and sights

    private boolean isBlock(int block) {
        return within(block, 0, rooms.count - 1);
    }

    private boolean isSight(int sight) {
        return within(sight, 0, now.sightCount - 1);
    }

    private int meltsNow(int block) {
        course.start(block);
        return course.meltsAt();
    }

    private int sellsNow(int block) {
        course.start(block);
        return course.sellsAt();
    }

    private int showingNow() {
        int sights = 0;
        for (int block = 0; block < rooms.count; block++) {
            sights |= rooms.showingIn(now, block, now.yard.meltedOf(block));
        }
        return sights;
    }

    private int showingBehind(int n) {
        int sights = 0;
        for (int block = 0; block < rooms.count; block++) {
            if (rooms.sightsIn(now, block) != 0) {
                course.start(block);
                course.run(n);
                sights |= rooms.showingIn(now, block, course.melted);
            }
        }
        return sights;
    }

    private int sightsOf(int kind) {
        int sights = 0;
        for (int sight = 0; sight < now.sightCount; sight++) {
            sights |= bit(now.sightPart(sight, KIND) == kind) << sight;
        }
        return sights;
    }

    private int wholeSights() {
        int sights = 0;
        for (int sight = 0; sight < now.sightCount; sight++) {
            boolean cut = (now.yard.upright & linesThrough(1 << sight, true)) != 0
                    || (now.yard.level & linesThrough(1 << sight, false)) != 0;
            sights |= bit(!cut) << sight;
        }
        return sights;
    }

    private int linesThrough(int sights, boolean upright) {
        int lines = 0;
        for (int sight = 0; sight < now.sightCount; sight++) {
            if ((sights >> sight & 1) == 1) {
                int from = now.sightPart(sight, upright ? COLUMN : ROW);
                int cells = now.sightPart(sight, upright ? WIDE : HIGH);
                lines |= ((1 << (cells - 1)) - 1) << from;
            }
        }
        return lines;
    }

    // ---- sawing: a level set is needed only by the least height of its rooms

    private void findLevelSets(int shut) {
        Arrays.fill(levelFor, NONE);
        for (int set = 0; set < 1 << (now.high - 1); set++) {
            int lowest = (set & shut) == 0 ? narrowest(set, now.high) : 0;
            for (int high = 1; high <= lowest && high < levelFor.length; high++) {
                if (levelFor[high] == NONE || Integer.bitCount(set) > Integer.bitCount(levelFor[high])) {
                    levelFor[high] = set;
                }
            }
        }
    }

    private int levelSetFor(int wide, int m) {
        int high = wide > 0 ? (m + wide - 1) / wide : 0;
        return within(high, 1, levelFor.length - 1) ? levelFor[high] : NONE;
    }

    private static int narrowest(int set, int cells) {
        int least = cells;
        int run = 0;
        for (int cell = 0; cell < cells; cell++) {
            run++;
            if ((set >> cell & 1) == 1 || cell == cells - 1) {
                least = Math.min(least, run);
                run = 0;
            }
        }
        return least;
    }

    // ---- selling and telling

    /** How many blocks come ahead of one that is worth so much, the dearest first. */
    private int manyAhead(int block, int pence) {
        int many = 0;
        for (int other = 0; other < rooms.count && other < worth.length; other++) {
            if (worth[other] > pence || worth[other] == pence && other < block) {
                many++;
            }
        }
        return many;
    }

    /** Whether a block ahead of it is alike in all that melting and rotting ask: then it lasts as likely. */
    private boolean hasLikeBefore(int block) {
        for (int other = 0; other < block; other++) {
            if (now.yard.isLike(block, other) && rooms.sizeOf(other) == rooms.sizeOf(block)
                    && rooms.edgeOf(other) == rooms.edgeOf(block)) {
                return true;
            }
        }
        return false;
    }

    private boolean mayLie(int kind, int block, int layer) {
        for (int glass = 0; glass < now.glasses.count; glass++) {
            boolean ofBoth = now.glasses.part(glass, 0) == kind && now.glasses.part(glass, 1) == block;
            boolean shows = now.glasses.part(glass, 2) > layer * 10;
            if (ofBoth && shows != (now.glasses.part(glass, 3) == 1)) {
                return false;
            }
        }
        return true;
    }

    private int winner() {
        int winner = 0;
        for (int bid = 1; bid < now.bids.count; bid++) {
            if (now.bids.part(bid, 0) > now.bids.part(winner, 0)) {
                winner = bid;
            }
        }
        return winner;
    }

    private int highestBut(int one) {
        int highest = 0;
        for (int bid = 0; bid < now.bids.count; bid++) {
            if (bid != one) {
                highest = Math.max(highest, now.bids.part(bid, 0));
            }
        }
        return highest;
    }

    /** lead[i] is what the one whose turn it is gets more by the run of blocks from i on; the runs get longer. */
    private int bestPlay(int many, boolean whichEnd) {
        System.arraycopy(worth, 0, lead, 0, lead.length);
        int byFirst = worth[0];
        int byLast = worth[0];
        for (int run = 2; run <= many; run++) {
            for (int from = 0; from + run <= many && from + run <= lead.length; from++) {
                int takesFirst = worth[from] - lead[from + 1];
                int takesLast = worth[from + run - 1] - lead[from];
                lead[from] = Math.max(takesFirst, takesLast);
                if (run == many) {
                    byFirst = takesFirst;
                    byLast = takesLast;
                }
            }
        }
        return whichEnd ? bit(byLast > byFirst) : lead[0];
    }

    private boolean allSoBy(Text text) {
        for (int told = 0; told < now.melts.count; told++) {
            int block = now.melts.part(told, 0);
            // A sawn line that was taken back can leave a told block without a place: nothing melts there.
            if (!isBlock(block)) {
                return false;
            }
            course.start(block);
            if (course.meltsUnder(text, now.melts.part(told, 1), now.melts.part(told, 2)) != now.melts.part(told, 3)) {
                return false;
            }
        }
        return true;
    }

    // ---- numbers

    private static boolean within(int value, int least, int most) {
        return value >= least && value <= most;
    }

    private static int bit(boolean so) {
        return so ? 1 : 0;
    }

    /** The greatest number that divides both; 1 at least, so that it can always divide. */
    private static int divisor(int one, int other) {
        int a = Math.abs(one);
        int b = Math.abs(other);
        for (int turn = 0; turn < 64 && b != 0; turn++) {
            int rest = a % b;
            a = b;
            b = rest;
        }
        return Math.max(1, a);
    }

    /** All that an image holds. */
    static final class World {
        int wide = 1;
        int high = 1;
        boolean told;
        int sightCount;
        final int[] sights = new int[SIGHTS * SIGHT_ROW];
        int textCount;
        int ruling = NONE;
        final Text[] texts = new Text[TEXTS];
        final Yard yard = new Yard();
        final Steps steps = new Steps();
        final Told orders = new Told(5);
        final Told glasses = new Told(8);
        final Told bids = new Told(8);
        final Told measures = new Told(8);
        final Told melts = new Told(8);

        void become(World other) {
            wide = other.wide;
            high = other.high;
            told = other.told;
            sightCount = other.sightCount;
            System.arraycopy(other.sights, 0, sights, 0, sights.length);
            textCount = other.textCount;
            ruling = other.ruling;
            for (int text = 0; text < texts.length; text++) {
                texts[text] = other.texts[text];
            }
            yard.become(other.yard);
            steps.become(other.steps);
            orders.become(other.orders);
            glasses.become(other.glasses);
            bids.become(other.bids);
            measures.become(other.measures);
            melts.become(other.melts);
        }

        int sightPart(int sight, int what) {
            int at = sight * SIGHT_ROW + what;
            return at >= 0 && at < sights.length ? sights[at] : 0;
        }

        Text textAt(int number) {
            return number >= 0 && number < textCount && number < texts.length ? texts[number] : null;
        }

        Text ruler() {
            return textAt(ruling);
        }
    }

    /** What a step changes and undoing brings back. */
    static final class Yard {
        static final int ROW_LENGTH = 7 + BLOCKS;

        int upright;
        int level;
        int heap = 20;
        int day;
        int heat;
        int pence;
        int x = 73;
        // One number a block, so that a step keeps few: STRAW in 4 bits, MELTED in 7, SOLD above.
        private final int[] marks = new int[BLOCKS];

        private int markOf(int block) {
            return block >= 0 && block < marks.length ? marks[block] : 0;
        }

        int strawOn(int block) {
            return markOf(block) & 15;
        }

        int meltedOf(int block) {
            return markOf(block) >> 4 & 127;
        }

        boolean isSold(int block) {
            return markOf(block) >> 11 == 1;
        }

        boolean isLike(int one, int other) {
            return markOf(one) == markOf(other);
        }

        void put(int block, int straw, int melted, boolean sold) {
            if (block >= 0 && block < marks.length) {
                marks[block] = straw | melted << 4 | bit(sold) << 11;
            }
        }

        boolean isUntouched() {
            for (int block = 0; block < marks.length; block++) {
                if (marks[block] != 0) {
                    return false;
                }
            }
            return true;
        }

        int draw() {
            int drawn = x;
            x = behind(x);
            return drawn;
        }

        static int behind(int x) {
            return (x * 281 + 179) % 30293;
        }

        void become(Yard other) {
            upright = other.upright;
            level = other.level;
            heap = other.heap;
            day = other.day;
            heat = other.heat;
            pence = other.pence;
            x = other.x;
            System.arraycopy(other.marks, 0, marks, 0, marks.length);
        }

        void writeTo(int[] rows, int at) {
            if (at < 0 || at + ROW_LENGTH > rows.length) {
                return;
            }
            rows[at] = upright;
            rows[at + 1] = level;
            rows[at + 2] = heap;
            rows[at + 3] = day;
            rows[at + 4] = heat;
            rows[at + 5] = pence;
            rows[at + 6] = x;
            System.arraycopy(marks, 0, rows, at + 7, marks.length);
        }

        void readFrom(int[] rows, int at) {
            if (at < 0 || at + ROW_LENGTH > rows.length) {
                return;
            }
            upright = rows[at];
            level = rows[at + 1];
            heap = rows[at + 2];
            day = rows[at + 3];
            heat = rows[at + 4];
            pence = rows[at + 5];
            x = rows[at + 6];
            System.arraycopy(rows, at + 7, marks, 0, marks.length);
        }
    }

    /** The yard ahead of each of the latest steps, in a ring. */
    static final class Steps {
        private static final int MOST = 30;

        private final int[] rows = new int[MOST * Yard.ROW_LENGTH];
        private int next;
        int count;

        void keep(Yard yard) {
            yard.writeTo(rows, next * Yard.ROW_LENGTH);
            next = (next + 1) % MOST;
            count = Math.min(MOST, count + 1);
        }

        boolean takeBack(Yard yard) {
            if (count == 0) {
                return false;
            }
            next = (next + MOST - 1) % MOST;
            count--;
            yard.readFrom(rows, next * Yard.ROW_LENGTH);
            return true;
        }

        void become(Steps other) {
            next = other.next;
            count = other.count;
            System.arraycopy(other.rows, 0, rows, 0, rows.length);
        }
    }

    /** A short list of rows of numbers that were told. */
    static final class Told {
        private static final int ROW_LENGTH = 4;

        private final int most;
        private final int[] rows = new int[8 * ROW_LENGTH];
        int count;

        Told(int most) {
            this.most = most;
        }

        int none() {
            count = 0;
            return 0;
        }

        int add(int a, int b, int c, int d) {
            int at = count * ROW_LENGTH;
            if (count >= most || at < 0 || at + ROW_LENGTH > rows.length) {
                return REFUSED;
            }
            rows[at] = a;
            rows[at + 1] = b;
            rows[at + 2] = c;
            rows[at + 3] = d;
            count++;
            return count;
        }

        int part(int row, int what) {
            int at = row * ROW_LENGTH + what;
            return at >= 0 && at < rows.length ? rows[at] : 0;
        }

        void become(Told other) {
            count = other.count;
            System.arraycopy(other.rows, 0, rows, 0, rows.length);
        }
    }

    /** A text without fault: its laws (null without), and each clause as a row of its word and numbers. */
    static final class Text {
        static final int ROW_LENGTH = 7;

        final int[] melts;
        final int[] sells;
        final int[] rots;
        final int count;
        private final int[] rows;

        Text(int[] melts, int[] sells, int[] rots, int[] rows, int count) {
            this.melts = melts;
            this.sells = sells;
            this.rots = rots;
            this.rows = rows;
            this.count = count;
        }

        int part(int clause, int what) {
            int at = clause * ROW_LENGTH + what;
            return at >= 0 && at < rows.length ? rows[at] : NONE;
        }
    }

    /** Where the blocks lie between the lines: reckoned from the pond and the lines, never kept. */
    static final class Rooms {
        private final int[] lefts = new int[BLOCKS];
        private final int[] tops = new int[BLOCKS];
        private final int[] wides = new int[BLOCKS];
        private final int[] highs = new int[BLOCKS];
        private final int[] edges = new int[BLOCKS];
        int count;

        void lay(World world) {
            count = 0;
            int top = 0;
            for (int row = 0; row < world.high; row++) {
                if (row == world.high - 1 || (world.yard.level >> row & 1) == 1) {
                    layAcross(world, top, row + 1 - top);
                    top = row + 1;
                }
            }
        }

        private void layAcross(World world, int top, int high) {
            int left = 0;
            for (int column = 0; column < world.wide; column++) {
                boolean ends = column == world.wide - 1 || (world.yard.upright >> column & 1) == 1;
                if (ends && count < BLOCKS) {
                    lefts[count] = left;
                    tops[count] = top;
                    wides[count] = column + 1 - left;
                    highs[count] = high;
                    edges[count] = bit(left == 0) + bit(top == 0) + bit(column + 1 == world.wide)
                            + bit(top + high == world.high);
                    count++;
                    left = column + 1;
                }
            }
        }

        private static int partOf(int[] parts, int block) {
            return block >= 0 && block < parts.length ? parts[block] : 0;
        }

        int leftOf(int block) {
            return partOf(lefts, block);
        }

        int topOf(int block) {
            return partOf(tops, block);
        }

        int wideOf(int block) {
            return partOf(wides, block);
        }

        int highOf(int block) {
            return partOf(highs, block);
        }

        int edgeOf(int block) {
            return partOf(edges, block);
        }

        int sizeOf(int block) {
            return partOf(wides, block) * partOf(highs, block);
        }

        int cellsOf(World world, int sight, int block) {
            if (block < 0 || block >= BLOCKS) {
                return 0;
            }
            int left = world.sightPart(sight, COLUMN);
            int top = world.sightPart(sight, ROW);
            int right = Math.min(left + world.sightPart(sight, WIDE), lefts[block] + wides[block]);
            int bottom = Math.min(top + world.sightPart(sight, HIGH), tops[block] + highs[block]);
            int wide = right - Math.max(left, lefts[block]);
            int high = bottom - Math.max(top, tops[block]);
            return wide > 0 && high > 0 ? wide * high : 0;
        }

        int sightsIn(World world, int block) {
            int sights = 0;
            for (int sight = 0; sight < world.sightCount; sight++) {
                sights |= bit(cellsOf(world, sight, block) > 0) << sight;
            }
            return sights;
        }

        int kindsIn(World world, int block) {
            int kinds = 0;
            for (int sight = 0; sight < world.sightCount; sight++) {
                kinds |= bit(cellsOf(world, sight, block) > 0) << world.sightPart(sight, KIND);
            }
            return kinds;
        }

        /** The sights that would show in the block, had it melted so much. */
        int showingIn(World world, int block, int melted) {
            int sights = 0;
            for (int sight = 0; sight < world.sightCount; sight++) {
                boolean deepEnough = melted > world.sightPart(sight, LAYER) * 10;
                sights |= bit(deepEnough && cellsOf(world, sight, block) > 0) << sight;
            }
            return sights;
        }
    }

    /** Reckons the laws of a text, or those that hold without one, over what is told of a block. */
    static final class Laws {
        static final int PUSH = 0;
        static final int NAME = 1;
        static final int NEGATE = 2;
        static final int JUMP = 3;
        static final int CASE = 4;
        static final int ADD = 5;
        static final int SUBTRACT = 6;
        static final int MULTIPLY = 7;
        static final int DIVIDE = 8;

        private static final int BOUND = 1000000;
        private static final int STRAW_NAME = 0;
        private static final int DAY_NAME = 1;
        private static final int HEAT_NAME = 2;
        private static final int SIZE_NAME = 3;
        private static final int MELTED_NAME = 4;
        private static final int EDGE_NAME = 5;
        private static final int SIGHTS_NAME = 6;
        private static final int KINDS_NAME = 7;

        private final int[] names = new int[8];
        // Eight that are open around one another leave two numbers each waiting, so this is far enough.
        private final int[] stack = new int[32];

        void tellBlock(int size, int edge) {
            names[SIZE_NAME] = size;
            names[EDGE_NAME] = edge;
        }

        void tellSights(int sights, int kinds) {
            names[SIGHTS_NAME] = sights;
            names[KINDS_NAME] = kinds;
        }

        void tellDay(int day, int heat, int straw, int melted) {
            names[DAY_NAME] = day;
            names[HEAT_NAME] = heat;
            names[STRAW_NAME] = straw;
            names[MELTED_NAME] = melted;
        }

        int melts(Text text) {
            boolean ruled = text != null && text.melts != null;
            int melts = ruled ? reckon(text.melts) : names[HEAT_NAME] + names[EDGE_NAME] - names[STRAW_NAME];
            return Math.max(0, Math.min(MOLTEN, melts));
        }

        int sells(Text text) {
            boolean ruled = text != null && text.sells != null;
            int sells = ruled ? reckon(text.sells) : names[SIZE_NAME] * (MOLTEN - names[MELTED_NAME]) / 10;
            return Math.max(0, Math.min(9999, sells));
        }

        int rots(Text text) {
            boolean ruled = text != null && text.rots != null;
            return ruled ? Math.max(0, Math.min(9, reckon(text.rots))) : 0;
        }

        /** Runs the code; every jump goes forward, so it ends within its length. */
        private int reckon(int[] code) {
            int top = 0;
            int at = 0;
            for (int turn = 0; turn < code.length && at >= 0 && at < code.length; turn++) {
                int deed = code[at] & 15;
                int with = code[at] >> 4;
                at++;
                if (deed == JUMP) {
                    at = with;
                } else if (deed == PUSH && top < stack.length) {
                    stack[top] = with;
                    top++;
                } else if (deed == NAME && top < stack.length && with >= 0 && with < names.length) {
                    stack[top] = names[with];
                    top++;
                } else if (deed == NEGATE && top > 0) {
                    stack[top - 1] = -stack[top - 1];
                } else if (deed == CASE && top > 0) {
                    // The number that chooses lies on top until its SUM is come to; the last SUM has no way on.
                    if (with == 0 || stack[top - 1] <= 1) {
                        top--;
                    } else {
                        stack[top - 1]--;
                        at = with;
                    }
                } else if (deed >= ADD && top > 1) {
                    top--;
                    long left = stack[top - 1];
                    long right = stack[top];
                    long made = 0;
                    switch (deed) {
                        case ADD: made = left + right; break;
                        case SUBTRACT: made = left - right; break;
                        case MULTIPLY: made = left * right; break;
                        default: made = right == 0 ? 0 : left / right;
                    }
                    stack[top - 1] = (int) Math.max(-BOUND, Math.min(BOUND, made));
                }
            }
            return top > 0 ? stack[top - 1] : 0;
        }
    }

    /** One block's way through days to come, nothing being done. */
    static final class Course {
        private final World world;
        private final Rooms rooms;
        private final Laws laws;
        private Text text;
        private int block;
        private int x;
        int day;
        int heat;
        int straw;
        int melted;
        boolean sold;

        Course(World world, Rooms rooms, Laws laws) {
            this.world = world;
            this.rooms = rooms;
            this.laws = laws;
        }

        void start(int from) {
            Yard yard = world.yard;
            block = from;
            text = world.ruler();
            x = yard.x;
            day = yard.day;
            heat = yard.heat;
            straw = yard.strawOn(from);
            melted = yard.meltedOf(from);
            sold = yard.isSold(from);
            laws.tellBlock(rooms.sizeOf(from), rooms.edgeOf(from));
        }

        void run(int days) {
            for (int past = 0; past < days && day < LAST_DAY; past++) {
                if (!sold) {
                    melted = meltedFrom(day, heat, straw, melted);
                }
                day++;
                heat = x % 10;
                x = Yard.behind(x);
                if (!sold) {
                    straw = strawFrom(day, heat, straw, melted);
                }
            }
        }

        int meltedFrom(int onDay, int byHeat, int inStraw, int before) {
            if (before >= MOLTEN) {
                return MOLTEN;
            }
            laws.tellDay(onDay, byHeat, inStraw, before);
            return Math.min(MOLTEN, before + laws.melts(text));
        }

        int strawFrom(int onDay, int byHeat, int before, int havingMelted) {
            if (before <= 0) {
                return 0;
            }
            laws.tellDay(onDay, byHeat, before, havingMelted);
            return Math.max(0, before - laws.rots(text));
        }

        int meltsAt() {
            return meltsUnder(text, heat, straw);
        }

        int meltsUnder(Text law, int byHeat, int inStraw) {
            laws.tellDay(day, byHeat, inStraw, melted);
            return laws.melts(law);
        }

        int sellsAt() {
            if (text != null && text.sells != null) {
                int sights = Integer.bitCount(rooms.sightsIn(world, block));
                laws.tellSights(sights, Integer.bitCount(rooms.kindsIn(world, block)));
            }
            laws.tellDay(day, heat, straw, melted);
            return laws.sells(text);
        }

        int penceBehind(int from, int moreStraw, int days) {
            start(from);
            straw = Math.min(MOST_STRAW, straw + moreStraw);
            run(days);
            return melted < MOLTEN ? sellsAt() : 0;
        }

        int daysUntilAbove(int from, int least) {
            start(from);
            for (int past = 0; past <= MOST_DAYS; past++) {
                if (melted > least) {
                    return past;
                }
                run(1);
            }
            return MOST_DAYS + 1;
        }
    }

    /** How many of all courses of heat leave a block; ways that meet again are gone on with once. */
    static final class Odds {
        private static final int STRAWS = MOST_STRAW + 1;
        private static final int GONE_STATE = MOLTEN * STRAWS;
        private static final int HEATS = 10;

        private final Course course;
        private final int[] waysTo = new int[GONE_STATE];
        private final int[] found = new int[HEATS * HEATS];
        private final int[] states = new int[HEATS * HEATS];
        private final int[] ways = new int[HEATS * HEATS];

        Odds(Course course) {
            this.course = course;
        }

        int ofAll(int n) {
            int all = 1;
            for (int day = 1; day < n && day < MOST_ODDS_DAYS; day++) {
                all *= HEATS;
            }
            return all;
        }

        int lasting(int block, int n) {
            course.start(block);
            if (course.sold) {
                return ofAll(n);
            }
            int melted = course.melted;
            if (n > 0) {
                melted = course.meltedFrom(course.day, course.heat, course.straw, melted);
            }
            if (melted >= MOLTEN || n < 2) {
                return bit(melted < MOLTEN);
            }
            states[0] = melted * STRAWS + course.straw;
            ways[0] = 1;
            int many = 1;
            for (int past = 1; past < n - 1 && past < MOST_ODDS_DAYS; past++) {
                many = spread(many, course.day + past);
            }
            return leftOver(many, course.day + n - 1);
        }

        private int leftOver(int many, int day) {
            int left = 0;
            for (int state = 0; state < many && state < states.length; state++) {
                for (int heat = 0; heat < HEATS; heat++) {
                    left += behind(states[state], day, heat) < GONE_STATE ? ways[state] : 0;
                }
            }
            return left;
        }

        private int spread(int many, int day) {
            int more = 0;
            for (int state = 0; state < many && state < states.length; state++) {
                for (int heat = 0; heat < HEATS; heat++) {
                    int to = behind(states[state], day, heat);
                    if (to >= 0 && to < GONE_STATE) {
                        if (waysTo[to] == 0 && more < found.length) {
                            found[more] = to;
                            more++;
                        }
                        waysTo[to] += ways[state];
                    }
                }
            }
            gather(more);
            return more;
        }

        private int behind(int state, int day, int heat) {
            int melted = state / STRAWS;
            int straw = course.strawFrom(day, heat, state % STRAWS, melted);
            return course.meltedFrom(day, heat, straw, melted) * STRAWS + straw;
        }

        private void gather(int many) {
            for (int state = 0; state < many && state < found.length; state++) {
                int to = found[state];
                if (to >= 0 && to < GONE_STATE) {
                    states[state] = to;
                    ways[state] = waysTo[to];
                    waysTo[to] = 0;
                }
            }
        }
    }

    /** Which blocks serve the orders. */
    static final class Serving {
        private static final int MOST = 5;

        private final World world;
        private final Rooms rooms;
        private final Course course;
        private final int[] lowest = new int[MOST * MOST];
        private final int[] manyFor = new int[MOST];
        private final int[] chosen = new int[MOST];
        private final int[] best = new int[MOST];
        int most;

        Serving(World world, Rooms rooms, Course course) {
            this.world = world;
            this.rooms = rooms;
            this.course = course;
        }

        int blockFor(int order) {
            return within(order, 0, best.length - 1) ? best[order] : NONE;
        }

        void settle() {
            int all = 0;
            for (int order = 0; order < world.orders.count; order++) {
                findLowest(order);
                all += world.orders.part(order, 2);
            }
            most = NONE;
            choose(0, 0, all);
        }

        /** The others take four blocks at most, so of those that serve an order the lowest five are enough. */
        private void findLowest(int order) {
            int many = 0;
            for (int block = 0; block < rooms.count && many < MOST; block++) {
                int at = order * MOST + many;
                if (within(at, 0, lowest.length - 1) && serves(block, order)) {
                    lowest[at] = block;
                    many++;
                }
            }
            if (within(order, 0, MOST - 1)) {
                manyFor[order] = many;
            }
        }

        private boolean serves(int block, int order) {
            int days = world.orders.part(order, 1) - world.yard.day;
            int layer = deepestWhole(world.orders.part(order, 0), block);
            if (world.yard.isSold(block) || layer == NONE || !within(days, 0, MOST_DAYS)) {
                return false;
            }
            course.start(block);
            course.run(days);
            return course.melted <= layer * 10;
        }

        private int deepestWhole(int kind, int block) {
            int deepest = NONE;
            for (int sight = 0; sight < world.sightCount; sight++) {
                int cells = world.sightPart(sight, WIDE) * world.sightPart(sight, HIGH);
                if (world.sightPart(sight, KIND) == kind && rooms.cellsOf(world, sight, block) == cells) {
                    deepest = Math.max(deepest, world.sightPart(sight, LAYER));
                }
            }
            return deepest;
        }

        /** Tries the lowest block first and none last, so that the first of like ones is the one that is due. */
        private void choose(int order, int pence, int open) {
            if (pence + open <= most) {
                return;
            }
            if (order >= world.orders.count || order >= MOST) {
                most = pence;
                System.arraycopy(chosen, 0, best, 0, best.length);
                return;
            }
            int worth = world.orders.part(order, 2);
            for (int i = 0; i < manyFor[order] && i < MOST; i++) {
                int block = lowest[order * MOST + i];
                if (isFree(block, order)) {
                    chosen[order] = block;
                    choose(order + 1, pence + worth, open - worth);
                }
            }
            chosen[order] = NONE;
            choose(order + 1, pence, open - worth);
        }

        private boolean isFree(int block, int order) {
            for (int other = 0; other < order && other < MOST; other++) {
                if (chosen[other] == block) {
                    return false;
                }
            }
            return true;
        }
    }

    /** The tape, and the reading of it as a text. */
    static final class Reader {
        // Each word by its letters, eight bits a letter; a word of more than eight letters can be like none of these.
        private static final long[] WORDS = {
            // melts sells rots pond sight
            0x6d656c7473L, 0x73656c6c73L, 0x726f7473L, 0x706f6e64L, 0x7369676874L,
            // saw cross sell straw day
            0x736177L, 0x63726f7373L, 0x73656c6cL, 0x7374726177L, 0x646179L,
            // heat size melted edge sights kinds
            0x68656174L, 0x73697a65L, 0x6d656c746564L, 0x65646765L, 0x736967687473L, 0x6b696e6473L,
            // by at deep to nth of
            0x6279L, 0x6174L, 0x64656570L, 0x746fL, 0x6e7468L, 0x6f66L,
        };
        private static final int LAST_CLAUSE_WORD = DAY;
        private static final int FIRST_NAME_WORD = STRAW;
        private static final int SIGHTS_WORD = 14;
        private static final int KINDS_WORD = 15;
        private static final int BY_WORD = 16;
        private static final int AT_WORD = 17;
        private static final int DEEP_WORD = 18;
        private static final int TO_WORD = 19;
        private static final int NTH_WORD = 20;
        private static final int OF_WORD = 21;

        private static final int TAPE_LENGTH = 300;
        private static final int MOST_CLAUSES = 24;
        private static final int MOST_OPEN = 8;
        private static final int MOST_SUMS = 6;
        private static final int MOST_NUMBER = 9999;

        private static final int AT_END = 0;
        private static final int A_WORD = 1;
        private static final int A_NUMBER = 2;
        private static final int A_SIGN = 3;

        private static final int CANT_STAND = 1;
        private static final int WRONG_NUMBER = 2;
        private static final int TOO_DEEP = 3;
        private static final int SECOND_LAW = 4;
        private static final int WRONG_NAME = 5;
        private static final int TOO_MANY_CLAUSES = 6;
        private static final int TOO_MANY_SUMS = 7;

        private final byte[] tape = new byte[TAPE_LENGTH];
        int length;
        int fault = NONE;
        int place = NONE;

        private int at;
        private int start;
        private int sort;
        private int value;

        private final int[] rows = new int[MOST_CLAUSES * Text.ROW_LENGTH];
        private int clauses;
        private int parts;
        private int[] melts;
        private int[] sells;
        private int[] rots;

        // A byte makes two deeds at most (a comma does).
        private final int[] code = new int[2 * TAPE_LENGTH];
        private int used;
        private int law;
        private boolean seventh;

        boolean hasRoom(int bytes) {
            return length + bytes <= TAPE_LENGTH;
        }

        void append(int four) {
            for (int shift = 24; shift >= 0 && length < TAPE_LENGTH; shift -= 8) {
                tape[length] = (byte) (four >> shift);
                length++;
            }
        }

        /** The text on the tape, which is empty then; null, if it has a fault. */
        Text read() {
            at = 0;
            clauses = 0;
            melts = null;
            sells = null;
            rots = null;
            seventh = false;
            fault = 0;
            place = NONE;
            step();
            boolean good = true;
            for (int clause = 0; clause <= MOST_CLAUSES && good && sort != AT_END; clause++) {
                good = readClause();
            }
            length = 0;
            return good ? new Text(melts, sells, rots, Arrays.copyOf(rows, clauses * Text.ROW_LENGTH), clauses) : null;
        }

        // -- tokens

        private int byteAt(int place) {
            return place >= 0 && place < length && place < TAPE_LENGTH ? tape[place] & 255 : 0;
        }

        private static int sortOf(int sign) {
            if (sign >= 'a' && sign <= 'z' || sign >= 'A' && sign <= 'Z') {
                return A_WORD;
            }
            return sign >= '0' && sign <= '9' ? A_NUMBER : A_SIGN;
        }

        private static int wordOf(long letters) {
            for (int word = 0; word < WORDS.length; word++) {
                if (WORDS[word] == letters) {
                    return word;
                }
            }
            return NONE;
        }

        private void step() {
            while (at < length && (byteAt(at) == ' ' || byteAt(at) == '\n')) {
                at++;
            }
            start = at;
            sort = at < length ? sortOf(byteAt(at)) : AT_END;
            long letters = 0;
            int number = 0;
            // A sign of two bytes can stand nowhere, so its first byte alone tells as much.
            while (at < length && sortOf(byteAt(at)) == sort && (sort != A_SIGN || at == start)) {
                letters = letters << 8 | byteAt(at);
                number = Math.min(MOST_NUMBER + 1, number * 10 + byteAt(at) - '0');
                at++;
            }
            if (sort == A_WORD) {
                value = wordOf(letters);
            } else {
                value = sort == A_NUMBER ? number : (int) letters;
            }
        }

        private boolean wrong(int which) {
            fault = which;
            place = start;
            return false;
        }

        private boolean isSign(char sign) {
            return sort == A_SIGN && value == sign;
        }

        private boolean isWord(int word) {
            return sort == A_WORD && value == word;
        }

        private boolean takeSign(char sign) {
            if (!isSign(sign)) {
                return wrong(CANT_STAND);
            }
            step();
            return true;
        }

        private boolean takeWord(int word) {
            if (!isWord(word)) {
                return wrong(CANT_STAND);
            }
            step();
            return true;
        }

        private boolean takeNumber(int least, int most) {
            if (sort != A_NUMBER) {
                return wrong(CANT_STAND);
            }
            if (!within(value, least, most)) {
                return wrong(WRONG_NUMBER);
            }
            addPart(value);
            step();
            return true;
        }

        // -- clauses

        private void addPart(int part) {
            int to = (clauses - 1) * Text.ROW_LENGTH + parts;
            if (within(to, 0, rows.length - 1)) {
                rows[to] = part;
                parts++;
            }
        }

        private boolean readClause() {
            int word = value;
            if (sort != A_WORD || !within(word, 0, LAST_CLAUSE_WORD)) {
                return wrong(CANT_STAND);
            }
            if (word == MELTS && melts != null || word == SELLS && sells != null || word == ROTS && rots != null) {
                return wrong(SECOND_LAW);
            }
            if (clauses >= MOST_CLAUSES) {
                return wrong(TOO_MANY_CLAUSES);
            }
            clauses++;
            parts = 0;
            addPart(word);
            step();
            return (word <= ROTS ? readLaw(word) : readDeed(word)) && takeSign(';');
        }

        private boolean readDeed(int word) {
            switch (word) {
                case POND: return takeNumber(2, SIDE) && takeWord(BY_WORD) && takeNumber(2, SIDE);
                case SIGHT: return takeNumber(0, KINDS - 1) && takeWord(AT_WORD)
                        && takeNumber(0, SIDE - 1) && takeSign(',') && takeNumber(0, SIDE - 1) && takeSign(':')
                        && takeNumber(1, 3) && takeSign(',') && takeNumber(1, 3)
                        && takeWord(DEEP_WORD) && takeNumber(0, LAYERS - 1);
                case STRAW: return takeNumber(1, MOST_STRAW) && takeWord(TO_WORD) && takeNumber(0, BLOCKS - 1);
                case DAY: return takeNumber(1, MOST_DAYS);
                case SELL: return takeNumber(0, BLOCKS - 1);
                default: return takeNumber(0, SIDE - 2);
            }
        }

        // -- laws

        private boolean readLaw(int word) {
            law = word;
            used = 0;
            if (!readSum(0)) {
                return false;
            }
            int[] made = Arrays.copyOf(code, used);
            if (word == MELTS) {
                melts = made;
            } else if (word == SELLS) {
                sells = made;
            } else {
                rots = made;
            }
            return true;
        }

        private boolean make(int deed, int with) {
            if (used >= code.length) {
                return wrong(CANT_STAND);
            }
            code[used] = with << 4 | deed;
            used++;
            return true;
        }

        private void lead(int from, int to) {
            if (within(from, 0, used - 1) && from < code.length) {
                code[from] = to << 4 | code[from] & 15;
            }
        }

        private boolean readSum(int depth) {
            boolean good = readProduct(depth);
            for (int i = 0; i < TAPE_LENGTH && good && (isSign('+') || isSign('-')); i++) {
                int deed = isSign('+') ? Laws.ADD : Laws.SUBTRACT;
                step();
                good = readProduct(depth) && make(deed, 0);
            }
            return good;
        }

        private boolean readProduct(int depth) {
            boolean good = readOne(depth);
            for (int i = 0; i < TAPE_LENGTH && good && (isSign('*') || isSign('/')); i++) {
                int deed = isSign('*') ? Laws.MULTIPLY : Laws.DIVIDE;
                step();
                good = readOne(depth) && make(deed, 0);
            }
            return good;
        }

        private boolean readOne(int depth) {
            boolean opens = isSign('(') || isSign('-') || isWord(NTH_WORD);
            boolean named = sort == A_WORD && within(value, FIRST_NAME_WORD, KINDS_WORD);
            int faultHere = faultOfOne(opens, named, depth);
            if (faultHere != 0) {
                return wrong(faultHere);
            }
            boolean chooses = isWord(NTH_WORD);
            int sign = value;
            step();
            if (!opens) {
                return named ? make(Laws.NAME, sign - FIRST_NAME_WORD) : make(Laws.PUSH, sign);
            }
            if (chooses) {
                return readChoice(depth + 1);
            }
            return sign == '-' ? readOne(depth + 1) && make(Laws.NEGATE, 0) : readSum(depth + 1) && takeSign(')');
        }

        /** The least fault of the token that a ONE begins with; 0 without. */
        private int faultOfOne(boolean opens, boolean named, int depth) {
            if (!opens && !named && sort != A_NUMBER) {
                return CANT_STAND;
            }
            if (sort == A_NUMBER && value > MOST_NUMBER) {
                return WRONG_NUMBER;
            }
            if (opens && depth >= MOST_OPEN) {
                return TOO_DEEP;
            }
            if (named && value >= SIGHTS_WORD && law != SELLS) {
                return WRONG_NAME;
            }
            return seventh ? TOO_MANY_SUMS : 0;
        }

        private boolean readChoice(int depth) {
            if (!readOne(depth) || !takeWord(OF_WORD) || !takeSign('(')) {
                return false;
            }
            int open = NONE;
            for (int sum = 1; sum <= MOST_SUMS + 1; sum++) {
                int head = used;
                make(Laws.CASE, 0);
                seventh = sum > MOST_SUMS;
                if (!readSum(depth)) {
                    return false;
                }
                if (!isSign(',')) {
                    closeJumps(open);
                    return takeSign(')');
                }
                // Where a jump goes is known at the end alone: until then it tells of the jump before it.
                make(Laws.JUMP, open + 1);
                open = used - 1;
                lead(head, used);
                step();
            }
            return false;
        }

        private void closeJumps(int last) {
            int jump = last;
            for (int i = 0; i < MOST_SUMS && within(jump, 0, used - 1) && jump < code.length; i++) {
                int before = (code[jump] >> 4) - 1;
                lead(jump, used);
                jump = before;
            }
        }
    }
}
