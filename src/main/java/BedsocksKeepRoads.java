import java.util.Arrays;

/** Sleepers who go by night where their socks lead; ../shared/DOC.md says what each call answers. */
public final class BedsocksKeepRoads {
    public static final int NONE = -1, BAD = -2, STATE = -3, FULL = -4;
    public static final long NO = -4611686018427387904L;

    private static final int NOT_SUCH = -5, NOT_SO = -7;
    private static final int NOTHING_THERE = -11, OUTSIDE = -12, OTHER_SORT = -13, BELOW_NOTHING = -14;
    private static final int NO_ASK = -1000, NO_TOLD = -5000, NO_WHAT = -7000, NO_RUN = -100000;
    private static final int FAULTS = -100;

    private static final int CELLS = 64, COLUMNS = 8, ROWS = 8, WAYS = 4;
    private static final int KINDS = 6, MORES = 10, STITCHES = 5, SOCK = 16, SLEEPERS = 6;
    private static final int MOST = 99, LAST_NIGHT = 999;
    private static final int TAPE = 160, TEXTS = 6, DEEPEST = 5, DIGITS = 4;
    private static final int SHEETS = 4, NUMBERS = 40, TOLD_NIGHTS = 20;
    private static final int RUN_NIGHTS = 40, MEET_NIGHTS = 60, BEST_NIGHTS = 20, TURN_NIGHTS = 40;
    private static final int ALIKE_MOST = 240;
    private static final int SEEDS = 100000, MANY_SEEDS = 40, LEAST_MOST = 999, FLOOD_NIGHTS = 8;
    private static final long LOT_TIMES = 48271L, LOT_MODULO = 2147483647L;
    private static final String FIRST_LAW = "goes 4 ; minds wet * 2 ; wears 1 ; ";

    private final World truth = new World();
    private final World thought = new World();
    private final World kept = new World();
    private final Sleeper ghost = new Sleeper();
    private final Text[] texts = new Text[TEXTS];
    private final int[] tape = new int[TAPE];
    private final Reader reader;
    private final Sheet[] sheets = new Sheet[SHEETS];
    private int textCount;
    private int tapeSize;
    private boolean hasImage;

    public BedsocksKeepRoads() {
        int[] stack = new int[TAPE];
        for (int t = 0; t < TEXTS; t++) {
            texts[t] = new Text(stack);
        }
        for (int s = 0; s < SHEETS; s++) {
            sheets[s] = new Sheet();
        }
        int size = Math.min(TAPE, FIRST_LAW.length());
        for (int i = 0; i < size; i++) {
            tape[i] = FIRST_LAW.charAt(i);
        }
        reader = new Reader(tape, texts[0]);
        reader.readAll(size, texts[0]);
        textCount = 1;
    }

    // ---- the land, the law, sleepers

    public int count(int what) {
        switch (what) {
            case 0: return truth.count;
            case 1: return Long.bitCount(truth.water);
            case 2: return truth.night;
            case 3: return textCount;
            case 4: return truth.law;
            case 5: return tapeSize;
            default: return BAD;
        }
    }

    public int dusk(int v) {
        if (v < 0 || v > LAST_NIGHT) {
            return BAD;
        }
        int was = truth.night;
        truth.night = v;
        return was;
    }

    public int flood(int c, int is) {
        if (!isCell(c)) {
            return NOT_SUCH;
        }
        if (is != 0 && is != 1) {
            return NOT_SO;
        }
        int was = hasWater(truth.water, c) ? 1 : 0;
        if (was != is) {
            truth.water ^= 1L << c;
        }
        return was;
    }

    public int feed(int n, int a, int b, int c, int d, int e) {
        if (n < 1 || n > 5 || !isByte(a) || !isByte(b) || !isByte(c) || !isByte(d) || !isByte(e)) {
            return BAD;
        }
        if (tapeSize + n > TAPE) {
            return FULL;
        }
        feedOne(a);
        if (n > 1) {
            feedOne(b);
        }
        if (n > 2) {
            feedOne(c);
        }
        if (n > 3) {
            feedOne(d);
        }
        if (n > 4) {
            feedOne(e);
        }
        return tapeSize;
    }

    public int text() {
        if (textCount >= TEXTS || textCount < 0) {
            return FULL;
        }
        int size = tapeSize;
        tapeSize = 0;
        int fault = reader.readAll(size, texts[textCount]);
        if (fault != NONE) {
            return FAULTS - fault;
        }
        textCount++;
        return textCount - 1;
    }

    public int force(int t) {
        if (t < 0 || t >= textCount) {
            return BAD;
        }
        int was = truth.law;
        truth.law = t;
        return was;
    }

    public int asks(int part, int p) {
        Sleeper one = truth.numbered(p);
        if (one == null || part < 0 || part >= Text.PARTS) {
            return NO_ASK;
        }
        return theLaw().says(part, one);
    }

    public int sleeper(int kindMore, int cellWay) {
        if (!isKindMore(kindMore) || !isCellWay(cellWay)) {
            return BAD;
        }
        if (truth.count >= SLEEPERS) {
            return FULL;
        }
        return truth.add(kindMore, cellWay);
    }

    public int put(int p, int what, int v) {
        Sleeper one = truth.numbered(p);
        if (one == null) {
            return NOT_SUCH;
        }
        if (v < 0 || v >= one.bound(what)) {
            return NOT_SO;
        }
        int was = one.part(what);
        one.become(what, v);
        return was;
    }

    public int told(int p, int what) {
        Sleeper one = truth.numbered(p);
        if (one == null) {
            return NO_TOLD;
        }
        switch (what) {
            case 0: case 1: case 2: case 3: case 4: return one.part(what);
            case 5: return one.kind;
            case 6: return one.more;
            case 7: return one.goesBy(theLaw());
            case 8: return one.mindsBy(theLaw());
            case 9: return one.wearsBy(theLaw(), truth.night);
            case 10: return one.size;
            default: return what >= 20 && what - 20 < one.size ? one.stitchAt(what - 20) : NO_WHAT;
        }
    }

    public int knit(int s, int p) {
        int refusal = sheetRefusal(s);
        if (refusal != 0) {
            return refusal;
        }
        Sheet from = sheets[s];
        if (!from.isSock()) {
            return BAD;
        }
        Sleeper one = truth.numbered(p);
        if (one == null) {
            return NOT_SUCH;
        }
        one.wear(from);
        return one.size;
    }

    public int darn(int p, int k, int stitch) {
        Sleeper one = truth.numbered(p);
        if (one == null) {
            return NOT_SUCH;
        }
        if (k < 0 || k >= one.size || stitch < 0 || stitch >= STITCHES) {
            return NOT_SO;
        }
        int was = one.stitchAt(k);
        one.mend(k, stitch);
        return was;
    }

    // ---- nights

    public int night() {
        if (truth.night >= LAST_NIGHT) {
            return STATE;
        }
        return truth.pass(theLaw());
    }

    public int run(int n, int what) {
        boolean ofOne = what >= 10;
        int p = what < 20 ? what - 10 : what - 20;
        if (n < 0 || n > RUN_NIGHTS || what < 0 || !ofOne && what > 2 || ofOne && p >= truth.count) {
            return NO_RUN;
        }
        thought.becomeAs(truth);
        int miles = passNights(n);
        if (what == 0) {
            return miles;
        }
        if (what == 1) {
            return thought.mindsOfAll(theLaw());
        }
        if (what == 2) {
            return thought.twos();
        }
        Sleeper one = thought.numbered(p);
        if (one == null) {
            return NO_RUN;
        }
        return what < 20 ? one.cell : one.wet;
    }

    public long track(int n, int what) {
        if (what == -2) {
            return truth.water;
        }
        if (n < 0 || n > RUN_NIGHTS || what < -1 || what >= truth.count) {
            return NO;
        }
        return what == -1 ? trailOf(0, truth.count, n) : trailOf(what, what + 1, n);
    }

    public int comes(int p, int c) {
        if (!beginThought(p)) {
            return NOT_SUCH;
        }
        if (!isCell(c)) {
            return NOT_SO;
        }
        for (int k = 0; k <= MEET_NIGHTS; k++) {
            if (ghost.cell == c) {
                return k;
            }
            ghost.walk(theLaw(), truth.night + k, truth.water);
        }
        return NONE;
    }

    public int meet(int p, int q) {
        if (p == q || truth.numbered(p) == null || truth.numbered(q) == null) {
            return NOT_SUCH;
        }
        thought.becomeAs(truth);
        Sleeper one = thought.numbered(p);
        Sleeper other = thought.numbered(q);
        if (one == null || other == null) {
            return NOT_SUCH;
        }
        for (int k = 0; k <= MEET_NIGHTS; k++) {
            if (one.cell == other.cell) {
                return k;
            }
            thought.pass(theLaw());
        }
        return NONE;
    }

    public int alike(int p, int q, int what) {
        Sleeper one = truth.numbered(p);
        Sleeper other = truth.numbered(q);
        if (one == null || other == null) {
            return NOT_SUCH;
        }
        if (what == 0) {
            return alikeOnEnd(one, other);
        }
        return what == 1 ? leastTurn(one, other) : NOT_SO;
    }

    // ---- what is best

    public int anew(int p, int c, int n, int what) {
        Sleeper one = truth.numbered(p);
        if (one == null) {
            return NOT_SUCH;
        }
        if (!isCell(c) || n < 0 || n > BEST_NIGHTS || what != 0 && what != 1) {
            return NOT_SO;
        }
        int best = farBehind(p, NONE, 0, c, n);
        int which = NONE;
        for (int k = 0; k < one.size; k++) {
            for (int stitch = 0; stitch < STITCHES; stitch++) {
                int far = farBehind(p, k, stitch, c, n);
                if (far < best) {
                    best = far;
                    which = 10 * k + stitch;
                }
            }
        }
        return what == 0 ? which : best;
    }

    public int drain(int n, int what) {
        if (n < 0 || n > BEST_NIGHTS || what != 0 && what != 1) {
            return BAD;
        }
        thought.becomeAs(truth);
        int best = passNights(n);
        int which = NONE;
        for (int c = 0; c < CELLS; c++) {
            if (!hasWater(truth.water, c)) {
                continue;
            }
            thought.becomeAs(truth);
            thought.water &= ~(1L << c);
            int miles = passNights(n);
            if (miles > best) {
                best = miles;
                which = c;
            }
        }
        return what == 0 ? which : best;
    }

    public int turn(int p, int n, int what) {
        if (truth.numbered(p) == null) {
            return NOT_SUCH;
        }
        if (n < 0 || n > TURN_NIGHTS || what != 0 && what != 1) {
            return NOT_SO;
        }
        int which = NONE;
        int best = 0;
        for (int way = 0; way < WAYS; way++) {
            beginThought(p);
            ghost.way = way;
            walkNights(n);
            if (which == NONE || ghost.wet < best) {
                which = way;
                best = ghost.wet;
            }
        }
        return what == 0 ? which : best;
    }

    public long share(int n, int part) {
        if (n < 0 || n > RUN_NIGHTS || part != 0 && part != 1) {
            return NO;
        }
        return lowest(Long.bitCount(trailOf(0, truth.count, n)), CELLS, part);
    }

    // ---- told nights

    public int judge(int s, int p) {
        int refusal = toldOfRefusal(s, p);
        if (refusal != 0) {
            return refusal;
        }
        beginThought(p);
        return firstOtherwise(sheets[s], theLaw());
    }

    public int kinds(int s, int p, int sort) {
        int refusal = toldOfRefusal(s, p);
        if (refusal != 0) {
            return refusal;
        }
        if (sort != 0 && sort != 1) {
            return NOT_SO;
        }
        int bits = 0;
        int bound = sort == 0 ? KINDS : MORES;
        for (int v = 0; v < bound; v++) {
            beginThought(p);
            if (sort == 0) {
                ghost.kind = v;
            } else {
                ghost.more = v;
            }
            if (firstOtherwise(sheets[s], theLaw()) == NONE) {
                bits |= 1 << v;
            }
        }
        return bits;
    }

    public long begins(int s, int p) {
        if (toldOfRefusal(s, p) != 0) {
            return NO;
        }
        return bitsSo(s, p, 0);
    }

    public int ways(int s, int p, int sort) {
        int refusal = toldOfRefusal(s, p);
        if (refusal != 0) {
            return refusal;
        }
        if (sort != 1 && sort != 2) {
            return NOT_SO;
        }
        return (int) bitsSo(s, p, sort);
    }

    public int whose(int s) {
        int refusal = toldRefusal(s);
        if (refusal != 0) {
            return refusal;
        }
        int bits = 0;
        for (int p = 0; p < truth.count; p++) {
            beginThought(p);
            if (firstOtherwise(sheets[s], theLaw()) == NONE) {
                bits |= 1 << p;
            }
        }
        return bits;
    }

    public int laws(int s, int p) {
        int refusal = toldOfRefusal(s, p);
        if (refusal != 0) {
            return refusal;
        }
        int bits = 0;
        for (int t = 0; t < textCount; t++) {
            beginThought(p);
            if (firstOtherwise(sheets[s], textNumbered(t)) == NONE) {
                bits |= 1 << t;
            }
        }
        return bits;
    }

    public int film(int s, int p, int n) {
        if (!isSheet(s)) {
            return BAD;
        }
        if (!beginThought(p)) {
            return NOT_SUCH;
        }
        if (n < 0 || n > TOLD_NIGHTS) {
            return NOT_SO;
        }
        Sheet into = sheets[s];
        into.becomeRow(0, n);
        for (int k = 0; k < n; k++) {
            ghost.walk(theLaw(), truth.night + k, truth.water);
            into.write(k, ghost.cell);
        }
        return n;
    }

    // ---- floods by lots

    public int drawn(int seed, int what) {
        if (seed < 0 || seed >= SEEDS || what != 0 && what != 1) {
            return BAD;
        }
        int miles = passFloods(seed);
        return what == 0 ? miles : thought.twos();
    }

    public long odds(int seed, int seeds, int least, int part) {
        if (seed < 0 || seed >= SEEDS || seeds < 1 || seeds > MANY_SEEDS) {
            return NO;
        }
        if (least < 0 || least > LEAST_MOST || part != 0 && part != 1) {
            return NO;
        }
        int above = 0;
        for (int k = 0; k < seeds; k++) {
            if (passFloods(seed + k) >= least) {
                above++;
            }
        }
        return lowest(above, seeds, part);
    }

    public int image() {
        kept.becomeAs(truth);
        hasImage = true;
        return truth.count;
    }

    public int back() {
        if (!hasImage) {
            return STATE;
        }
        truth.becomeAs(kept);
        return truth.count;
    }

    // ---- the host

    public int sheet(int s, int sort, int n) {
        if (!isSheet(s) || sort < Sheet.MISSING || sort > 2) {
            return BAD;
        }
        if (sort == Sheet.MISSING) {
            sheets[s].becomeRow(Sheet.MISSING, 0);
            return 1;
        }
        if (n > NUMBERS) {
            return BAD;
        }
        if (n < 0) {
            return BELOW_NOTHING;
        }
        sheets[s].becomeRow(sort, n);
        return 1;
    }

    public int cell(int s, int i, int v) {
        int refusal = sheetRefusal(s);
        if (refusal != 0) {
            return refusal;
        }
        if (!sheets[s].has(i)) {
            return OUTSIDE;
        }
        sheets[s].write(i, v);
        return 1;
    }

    public int copy(int s, int i, int other, int j, int n) {
        if (!isSheet(s) || !isSheet(other)) {
            return BAD;
        }
        Sheet from = sheets[s];
        Sheet into = sheets[other];
        if (from.sort == Sheet.MISSING || into.sort == Sheet.MISSING) {
            return NOTHING_THERE;
        }
        if (from.sort != into.sort) {
            return OTHER_SORT;
        }
        if (!from.hasRun(i, n) || !into.hasRun(j, n)) {
            return OUTSIDE;
        }
        System.arraycopy(from.numbers, i, into.numbers, j, n);
        return n;
    }

    public int sleepersBy(int s, int sort, int from, int n) {
        if (!isSheet(s) || sort < 0 || sort > 2 || n < 0 || n > SLEEPERS) {
            return BAD;
        }
        Sheet told = sheets[s];
        if (told.sort == Sheet.MISSING) {
            return NOTHING_THERE;
        }
        if (told.sort != sort) {
            return OTHER_SORT;
        }
        int came = 0;
        for (int k = 0; k < n; k++) {
            // Looked at ahead of adding, so that a place near the int's end can't wrap around into the row.
            if (!told.has(from) || !told.has(from + 2 * k + 1)) {
                return OUTSIDE;
            }
            if (sleeper(told.read(from + 2 * k), told.read(from + 2 * k + 1)) >= 0) {
                came++;
            }
        }
        return came;
    }

    public int taken(int i, int kind) {
        if (kind < 0 || kind > KINDS) {
            return BAD;
        }
        if (i < 0 || i >= 2 * SLEEPERS) {
            return OUTSIDE;
        }
        boolean isWool = i >= SLEEPERS;
        Sleeper one = truth.numbered(isWool ? i - SLEEPERS : i);
        if (one == null) {
            return NOTHING_THERE;
        }
        if (isWool) {
            return kind == KINDS ? one.wool : OTHER_SORT;
        }
        return kind < KINDS && one.isA(kind) ? i : OTHER_SORT;
    }

    // ---- what the calls share

    private static boolean isCell(int c) {
        return c >= 0 && c < CELLS;
    }

    private static boolean isByte(int b) {
        return b >= 0 && b <= 255;
    }

    private static boolean isSheet(int s) {
        return s >= 0 && s < SHEETS;
    }

    private static boolean isKindMore(int kindMore) {
        return kindMore >= 0 && kindMore < KINDS * 10;
    }

    private static boolean isCellWay(int cellWay) {
        return cellWay >= 0 && cellWay < CELLS * 10 && cellWay % 10 < WAYS;
    }

    private static boolean hasWater(long water, int c) {
        return (water >>> c & 1L) != 0;
    }

    private static int far(int c, int d) {
        return Math.abs(c % COLUMNS - d % COLUMNS) + Math.abs(c / COLUMNS - d / COLUMNS);
    }

    /** The part (0 above, 1 below the line) of a fraction in lowest terms; below is above 0. */
    private static long lowest(long above, long below, int part) {
        long a = above;
        long b = below;
        for (int i = 0; i < 64 && b > 0; i++) {
            long rest = a % b;
            a = b;
            b = rest;
        }
        long common = Math.max(1L, a);
        return part == 0 ? above / common : below / common;
    }

    private void feedOne(int b) {
        if (tapeSize >= 0 && tapeSize < TAPE) {
            tape[tapeSize] = b;
            tapeSize++;
        }
    }

    private Text textNumbered(int t) {
        return t >= 0 && t < TEXTS ? texts[t] : texts[0];
    }

    private Text theLaw() {
        return textNumbered(truth.law);
    }

    private int sheetRefusal(int s) {
        if (!isSheet(s)) {
            return BAD;
        }
        return sheets[s].sort == Sheet.MISSING ? NOTHING_THERE : 0;
    }

    private int toldRefusal(int s) {
        int refusal = sheetRefusal(s);
        if (refusal != 0) {
            return refusal;
        }
        return sheets[s].size > TOLD_NIGHTS ? BAD : 0;
    }

    private int toldOfRefusal(int s, int p) {
        int refusal = toldRefusal(s);
        if (refusal != 0) {
            return refusal;
        }
        return truth.numbered(p) == null ? NOT_SUCH : 0;
    }

    /** Nobody's night depends on another one's, so a thought about one needs that one alone. */
    private boolean beginThought(int p) {
        Sleeper one = truth.numbered(p);
        if (one == null) {
            return false;
        }
        ghost.becomeAs(one);
        return true;
    }

    private void walkNights(int n) {
        for (int k = 0; k < n; k++) {
            ghost.walk(theLaw(), truth.night + k, truth.water);
        }
    }

    private int passNights(int n) {
        int miles = 0;
        for (int k = 0; k < n; k++) {
            miles += thought.pass(theLaw());
        }
        return miles;
    }

    private int passFloods(int seed) {
        thought.becomeAs(truth);
        long lot = seed + 1L;
        int miles = 0;
        for (int k = 0; k < FLOOD_NIGHTS; k++) {
            lot = lot * LOT_TIMES % LOT_MODULO;
            thought.water ^= 1L << (int) (lot % CELLS);
            miles += thought.pass(theLaw());
        }
        return miles;
    }

    /** The cells in which the sleepers of these numbers are, or come to be in n nights. */
    private long trailOf(int from, int till, int n) {
        long trail = 0;
        for (int p = from; p < till; p++) {
            if (beginThought(p)) {
                ghost.trail = 1L << ghost.cell;
                walkNights(n);
                trail |= ghost.trail;
            }
        }
        return trail;
    }

    /** How far from c one is behind n nights, were stitch k (none, if k is NONE) another one. */
    private int farBehind(int p, int k, int stitch, int c, int n) {
        beginThought(p);
        ghost.mend(k, stitch);
        walkNights(n);
        return far(ghost.cell, c);
    }

    private int firstOtherwise(Sheet told, Text law) {
        for (int k = 0; k < told.size; k++) {
            ghost.walk(law, truth.night + k, truth.water);
            if (ghost.cell != told.read(k)) {
                return k;
            }
        }
        return NONE;
    }

    /** Values (bits) of what (0 the cell, 1 the way, 2 next) by which nothing told is otherwise. */
    private long bitsSo(int s, int p, int what) {
        Sleeper one = truth.numbered(p);
        int bound = one == null ? 0 : one.bound(what);
        long bits = 0;
        for (int v = 0; v < bound; v++) {
            beginThought(p);
            ghost.become(what, v);
            if (firstOtherwise(sheets[s], theLaw()) == NONE) {
                bits |= 1L << v;
            }
        }
        return bits;
    }

    private static int alikeOnEnd(Sleeper one, Sleeper other) {
        for (int k = 0; k < ALIKE_MOST; k++) {
            if (one.stitchRound(one.next + k) != other.stitchRound(other.next + k)) {
                return k;
            }
        }
        return ALIKE_MOST;
    }

    private static int leastTurn(Sleeper one, Sleeper other) {
        if (one.size != other.size) {
            return NONE;
        }
        for (int by = 0; by < one.size; by++) {
            if (isTurned(one, other, by)) {
                return by;
            }
        }
        return NONE;
    }

    private static boolean isTurned(Sleeper one, Sleeper other, int by) {
        for (int k = 0; k < one.size; k++) {
            if (one.stitchAt(k) != other.stitchRound(k + by)) {
                return false;
            }
        }
        return true;
    }

    /** All that an image keeps; also the place where nights are thought through. */
    private static final class World {
        long water;
        int night;
        int law;
        int count;
        final Sleeper[] all = new Sleeper[SLEEPERS];

        World() {
            for (int p = 0; p < SLEEPERS; p++) {
                all[p] = new Sleeper();
            }
        }

        void becomeAs(World other) {
            water = other.water;
            night = other.night;
            law = other.law;
            count = other.count;
            for (int p = 0; p < count && p < SLEEPERS; p++) {
                all[p].becomeAs(other.all[p]);
            }
        }

        /** The sleeper of that number, or null. */
        Sleeper numbered(int p) {
            return p >= 0 && p < count && p < SLEEPERS ? all[p] : null;
        }

        int add(int kindMore, int cellWay) {
            if (count < 0 || count >= SLEEPERS) {
                return FULL;
            }
            all[count].arrive(kindMore, cellWay);
            count++;
            return count - 1;
        }

        int pass(Text by) {
            int miles = 0;
            for (int p = 0; p < count && p < SLEEPERS; p++) {
                miles += all[p].walk(by, night, water);
            }
            night++;
            return miles;
        }

        int mindsOfAll(Text by) {
            int sum = 0;
            for (int p = 0; p < count && p < SLEEPERS; p++) {
                sum += all[p].mindsBy(by);
            }
            return sum;
        }

        int twos() {
            int twos = 0;
            for (int p = 0; p < count && p < SLEEPERS; p++) {
                for (int q = 0; q < p; q++) {
                    if (all[p].cell == all[q].cell) {
                        twos++;
                    }
                }
            }
            return twos;
        }
    }

    /** One sleeper, of whatever kind: the kind may be another one in thought, so it is a number here. */
    private static final class Sleeper {
        static final int BABY = 1, OLD = 2, GIRL = 3, DEAD = 4, PRIEST = 5;
        static final int TO_LEFT = 1, TO_RIGHT = 2, BOG = 3, BRIDGE = 4;

        int kind;
        int more;
        int cell;
        int way;
        int next;
        int wet;
        int wool = MOST;
        int size = 1;
        long trail;
        final int[] sock = new int[SOCK];

        void arrive(int kindMore, int cellWay) {
            kind = kindMore / 10;
            more = kindMore % 10;
            cell = cellWay / 10;
            way = cellWay % 10;
            next = 0;
            wet = 0;
            wool = MOST;
            size = 1;
            sock[0] = 0;
        }

        void becomeAs(Sleeper other) {
            kind = other.kind;
            more = other.more;
            cell = other.cell;
            way = other.way;
            next = other.next;
            wet = other.wet;
            wool = other.wool;
            size = other.size;
            System.arraycopy(other.sock, 0, sock, 0, SOCK);
        }

        /** What is below this may be put; nothing, where there is no such what. */
        int bound(int what) {
            switch (what) {
                case 0: return CELLS;
                case 1: return WAYS;
                case 2: return size;
                case 3: case 4: return MOST + 1;
                default: return 0;
            }
        }

        int part(int what) {
            switch (what) {
                case 0: return cell;
                case 1: return way;
                case 2: return next;
                case 3: return wet;
                default: return wool;
            }
        }

        void become(int what, int v) {
            switch (what) {
                case 0: cell = v; break;
                case 1: way = v; break;
                case 2: next = v; break;
                case 3: wet = v; break;
                case 4: wool = v; break;
                default: break;
            }
        }

        int stitchAt(int k) {
            return k >= 0 && k < SOCK ? sock[k] : 0;
        }

        int stitchRound(int k) {
            return size > 0 ? stitchAt(k % size) : 0;
        }

        void mend(int k, int stitch) {
            if (k >= 0 && k < SOCK) {
                sock[k] = stitch;
            }
        }

        void wear(Sheet from) {
            size = from.size;
            next = 0;
            for (int k = 0; k < size; k++) {
                mend(k, from.read(k));
            }
        }

        boolean isA(int wanted) {
            switch (wanted) {
                case 0: return true;
                case BABY: return kind == BABY || kind == GIRL;
                case OLD: return kind == OLD || kind == DEAD;
                default: return kind == wanted;
            }
        }

        int goesBy(Text law) {
            int said = law.says(Text.GOES, this);
            int plain = wool == 0 ? 0 : said;
            switch (kind) {
                case BABY: return goesAsBaby(plain);
                case GIRL: return goesAsBaby(plain) + 1;
                case OLD: case DEAD: return Math.min(plain, 1 + wool / 10);
                case PRIEST: return Math.min(said, more);
                default: return plain;
            }
        }

        private int goesAsBaby(int plain) {
            int divisor = more + 1;
            return divisor > 0 ? 2 * plain % divisor : 0;
        }

        int mindsBy(Text law) {
            int said = law.says(Text.MINDS, this);
            switch (kind) {
                case BABY: case GIRL: return said + 10;
                case DEAD: return wet > more ? said : 0;
                default: return said;
            }
        }

        int wearsBy(Text law, int night) {
            int said = law.says(Text.WEARS, this);
            switch (kind) {
                case OLD: return said + more;
                case GIRL: return night % 3 == 0 ? said : 0;
                case DEAD: return 0;
                case PRIEST: return 2 * said;
                default: return said;
            }
        }

        /** One's night; the miles of it. What one goes and wears is told ahead of the first stitch. */
        int walk(Text law, int night, long water) {
            int goes = goesBy(law);
            int wears = wearsBy(law, night);
            int miles = 0;
            while (miles < goes && goOn(water)) {
                miles++;
            }
            wool = Math.max(0, wool - wears);
            return miles;
        }

        /** By one stitch; whether one came to another cell (who didn't goes no more in this night). */
        private boolean goOn(long water) {
            int stitch = stitchAt(next);
            next = next + 1 < size ? next + 1 : 0;
            if (stitch == BOG) {
                return false;
            }
            if (stitch == TO_LEFT) {
                way = (way + 3) % WAYS;
            } else if (stitch == TO_RIGHT) {
                way = (way + 1) % WAYS;
            }
            int to = beside();
            if (to == NONE) {
                return false;
            }
            if (stitch != BRIDGE && hasWater(water, to)) {
                wet = Math.min(MOST, wet + 1);
                return false;
            }
            cell = to;
            trail |= 1L << to;
            return true;
        }

        /** The cell that one looks to, or NONE. */
        private int beside() {
            int column = cell % COLUMNS;
            int row = cell / COLUMNS;
            switch (way) {
                case 0: return column + 1 < COLUMNS ? cell + 1 : NONE;
                case 1: return row + 1 < ROWS ? cell + COLUMNS : NONE;
                case 2: return column > 0 ? cell - 1 : NONE;
                default: return row > 0 ? cell - COLUMNS : NONE;
            }
        }

        /** What a name of the texts is worth, of this one. */
        int named(int name) {
            switch (name) {
                case 0: return next;
                case 1: return cell % COLUMNS;
                case 2: return cell / COLUMNS;
                case 3: return wet;
                case 4: return wool;
                default: return more;
            }
        }
    }

    /** A row of numbers, or missing; its room is made once, so that no call needs any more. */
    private static final class Sheet {
        static final int MISSING = -1;

        int sort = MISSING;
        int size;
        final int[] numbers = new int[NUMBERS];

        void becomeRow(int newSort, int n) {
            sort = newSort;
            size = Math.max(0, Math.min(NUMBERS, n));
            Arrays.fill(numbers, 0);
        }

        boolean has(int i) {
            return i >= 0 && i < size && i < NUMBERS;
        }

        boolean hasRun(int i, int n) {
            return i >= 0 && n >= 0 && i <= size && n <= size - i;
        }

        int read(int i) {
            return has(i) ? numbers[i] : 0;
        }

        void write(int i, int v) {
            if (has(i)) {
                numbers[i] = sort == 0 ? (byte) v : sort == 1 ? (short) v : v;
            }
        }

        boolean isSock() {
            if (size < 1 || size > SOCK) {
                return false;
            }
            for (int k = 0; k < size; k++) {
                if (read(k) < 0 || read(k) >= STITCHES) {
                    return false;
                }
            }
            return true;
        }
    }

    /** A text, as what is to be done on a stack, one part behind another. */
    private static final class Text {
        static final int GOES = 0, MINDS = 1, WEARS = 2, PARTS = 3, GOES_MOST = 20;
        static final int NUMBER = 0, NAME = 1, MINUS_ONE = 2, NOT = 3;
        static final int TIMES = 4, PLUS = 5, MINUS = 6, LESS = 7, EQUAL = 8, AND = 9, OR = 10;

        final int[] deeds = new int[TAPE];
        final int[] worths = new int[TAPE];
        final int[] ends = new int[PARTS];
        final int[] stack;
        int size;

        Text(int[] sharedStack) {
            stack = sharedStack;
        }

        void emit(int deed, int worth) {
            if (size >= 0 && size < TAPE) {
                deeds[size] = deed;
                worths[size] = worth;
                size++;
            }
        }

        /** What a part (0 .. 2) says of one, within its bounds. */
        int says(int part, Sleeper one) {
            if (part < 0 || part >= PARTS) {
                return 0;
            }
            int till = Math.min(TAPE, ends[part]);
            int high = 0;
            for (int i = part > 0 ? Math.max(0, ends[part - 1]) : 0; i < till; i++) {
                int deed = deeds[i];
                if (deed == NUMBER || deed == NAME) {
                    if (high < stack.length) {
                        stack[high] = deed == NUMBER ? worths[i] : one.named(worths[i]);
                        high++;
                    }
                } else if (deed == MINUS_ONE || deed == NOT) {
                    if (high >= 1) {
                        stack[high - 1] = ofOne(deed, stack[high - 1]);
                    }
                } else if (high >= 2) {
                    stack[high - 2] = ofTwo(deed, stack[high - 2], stack[high - 1]);
                    high--;
                }
            }
            return within(part, high > 0 ? stack[0] : 0);
        }

        private static int within(int part, int worth) {
            int least = part == MINDS ? -MOST : 0;
            int most = part == GOES ? GOES_MOST : MOST;
            return Math.max(least, Math.min(most, worth));
        }

        private static int ofOne(int deed, int a) {
            if (deed == MINUS_ONE) {
                return -a;
            }
            return a == 0 ? 1 : 0;
        }

        private static int ofTwo(int deed, int a, int b) {
            switch (deed) {
                case TIMES: return a * b;
                case PLUS: return a + b;
                case MINUS: return a - b;
                case LESS: return a < b ? 1 : 0;
                case EQUAL: return a == b ? 1 : 0;
                case AND: return a != 0 && b != 0 ? 1 : 0;
                default: return a != 0 || b != 0 ? 1 : 0;
            }
        }
    }

    /**
     * Reads the tape as a text, a token ahead. It never goes past a token that can't stand where it
     * stands, so that, where reading fails, the fault is where the token at hand begins.
     */
    private static final class Reader {
        // Signs are their bytes (below 128), words and what is no sign stand above these.
        static final int GOES = 200, OR = 203, AND = 204, NOT = 205;
        static final int NUMBER = 300, NAME = 301, END = 302, WRONG = 303;
        static final int KEY_WORDS = 6, WORDS = 12;

        final int[] bytes;
        int size;
        int at;
        int start;
        int token;
        int worth;
        Text into;

        Reader(int[] tape, Text first) {
            bytes = tape;
            into = first;
        }

        /** The place of the fault, or NONE. */
        int readAll(int tapeSize, Text text) {
            size = Math.min(bytes.length, tapeSize);
            at = 0;
            into = text;
            into.size = 0;
            advance();
            for (int part = 0; part < Text.PARTS; part++) {
                if (token != GOES + part) {
                    return start;
                }
                advance();
                if (!readEither(0) || token != ';') {
                    return start;
                }
                into.ends[part] = into.size;
                advance();
            }
            return token == END ? NONE : start;
        }

        private boolean readEither(int open) {
            if (!readBoth(open)) {
                return false;
            }
            for (int i = 0; i < TAPE && token == OR; i++) {
                advance();
                if (!readBoth(open)) {
                    return false;
                }
                into.emit(Text.OR, 0);
            }
            return true;
        }

        private boolean readBoth(int open) {
            if (!readNot(open)) {
                return false;
            }
            for (int i = 0; i < TAPE && token == AND; i++) {
                advance();
                if (!readNot(open)) {
                    return false;
                }
                into.emit(Text.AND, 0);
            }
            return true;
        }

        private boolean readNot(int open) {
            if (token != NOT) {
                return readCompared(open);
            }
            if (open >= DEEPEST) {
                return false;
            }
            advance();
            if (!readNot(open + 1)) {
                return false;
            }
            into.emit(Text.NOT, 0);
            return true;
        }

        private boolean readCompared(int open) {
            if (!readSum(open)) {
                return false;
            }
            if (token != '<' && token != '=') {
                return true;
            }
            int deed = token == '<' ? Text.LESS : Text.EQUAL;
            advance();
            if (!readSum(open)) {
                return false;
            }
            into.emit(deed, 0);
            return true;
        }

        private boolean readSum(int open) {
            if (!readTerm(open)) {
                return false;
            }
            for (int i = 0; i < TAPE && (token == '+' || token == '-'); i++) {
                int deed = token == '+' ? Text.PLUS : Text.MINUS;
                advance();
                if (!readTerm(open)) {
                    return false;
                }
                into.emit(deed, 0);
            }
            return true;
        }

        private boolean readTerm(int open) {
            if (!readOne(open)) {
                return false;
            }
            for (int i = 0; i < TAPE && token == '*'; i++) {
                advance();
                if (!readOne(open)) {
                    return false;
                }
                into.emit(Text.TIMES, 0);
            }
            return true;
        }

        private boolean readOne(int open) {
            if (token == NUMBER || token == NAME) {
                into.emit(token == NUMBER ? Text.NUMBER : Text.NAME, worth);
                advance();
                return true;
            }
            if (token != '-' && token != '(' || open >= DEEPEST) {
                return false;
            }
            if (token == '-') {
                advance();
                if (!readOne(open + 1)) {
                    return false;
                }
                into.emit(Text.MINUS_ONE, 0);
                return true;
            }
            advance();
            if (!readEither(open + 1) || token != ')') {
                return false;
            }
            advance();
            return true;
        }

        private int byteAt(int i) {
            return i >= 0 && i < size && i < bytes.length ? bytes[i] : 0;
        }

        private static boolean isLetter(int b) {
            return b >= 'a' && b <= 'z';
        }

        private static boolean isDigit(int b) {
            return b >= '0' && b <= '9';
        }

        private void advance() {
            while (at < size && (byteAt(at) == 32 || byteAt(at) == 10)) {
                at++;
            }
            start = at;
            if (at >= size) {
                token = END;
                return;
            }
            int b = byteAt(at);
            if (isLetter(b)) {
                takeWord();
            } else if (isDigit(b)) {
                takeNumber();
            } else {
                at++;
                token = isSign(b) ? b : WRONG;
            }
        }

        private static boolean isSign(int b) {
            return b == '(' || b == ')' || b == ';' || b == '+' || b == '-' || b == '*' || b == '<' || b == '=';
        }

        private void takeNumber() {
            worth = 0;
            while (at < size && isDigit(byteAt(at))) {
                worth = worth * 10 + byteAt(at) - '0';
                at++;
            }
            token = at - start > DIGITS ? WRONG : NUMBER;
        }

        private void takeWord() {
            while (at < size && isLetter(byteAt(at))) {
                at++;
            }
            token = WRONG;
            for (int w = 0; w < WORDS; w++) {
                if (isWord(word(w))) {
                    token = w < KEY_WORDS ? GOES + w : NAME;
                    worth = w - KEY_WORDS;
                }
            }
        }

        private boolean isWord(String wanted) {
            if (at - start != wanted.length()) {
                return false;
            }
            for (int i = 0; i < wanted.length(); i++) {
                if (byteAt(start + i) != wanted.charAt(i)) {
                    return false;
                }
            }
            return true;
        }

        private static String word(int w) {
            switch (w) {
                case 0: return "goes";
                case 1: return "minds";
                case 2: return "wears";
                case 3: return "or";
                case 4: return "and";
                case 5: return "not";
                case 6: return "stitch";
                case 7: return "column";
                case 8: return "row";
                case 9: return "wet";
                case 10: return "wool";
                default: return "more";
            }
        }
    }
}
