/** Promise by promise: the last value that is allowed on either side (and the first that isn't), the empty, the full, the round. */
public final class EdgesTest {
    private static final Check CHECK = new Check();
    private static final long NO = BedsocksKeepRoads.NO;
    private static final int MIN = Integer.MIN_VALUE, MAX = Integer.MAX_VALUE;
    private static BedsocksKeepRoads x;

    private static void promise(int number) {
        CHECK.at("promise " + number);
        x = new BedsocksKeepRoads();
    }

    private static void due(String call, long got, long want) {
        CHECK.due(call, got, want);
    }

    private static void law(String text) {
        x.force(Check.text(x, text));
    }

    private static void sixSleepers() {
        for (int p = 0; p < 6; p++) {
            x.sleeper(10 * p + p, 10 * p);
        }
    }

    public static void main(String[] args) {
        lastCall();
        countOfFull();
        sleeperOfEach();
        putFirstAndLast();
        toldFirstAndLast();
        knitEach();
        darnFirstAndLast();
        runFirstAndLast();
        trackFirstAndLast();
        comesFirstAndLast();
        meetFirstAndLast();
        alikeLongest();
        alikeLeastTurn();
        anewFirstAndLast();
        anewOfLikeOnes();
        drainFirstAndLast();
        turnFirstAndLast();
        shareFirstAndLast();
        judgeFirstAndLast();
        kindsFirstAndLast();
        moreFirstAndLast();
        beginsFirstAndLast();
        waysFirstAndLast();
        whoseAndLaws();
        filmFirstAndLast();
        drawnFirstAndLast();
        oddsFirstAndLast();
        imageAndBack();
        sheetFirstAndLast();
        cellLowestBits();
        copyFirstAndLast();
        sleepersByFirstAndLast();
        sleepersByLeavesOut();
        takenFirstAndLast();
        CHECK.end();
    }

    private static void lastCall() {
        CHECK.at("an object is used for at most 512 calls");
        x = new BedsocksKeepRoads();
        for (int k = 1; k < 512; k++) {
            due("call " + k, x.dusk(k), k - 1);
        }
        due("call 512", x.night(), 0);
    }

    private static void countOfFull() {
        promise(2);
        sixSleepers();
        for (int c = 0; c < 64; c++) {
            x.flood(c, 1);
        }
        for (int t = 1; t < 6; t++) {
            Check.text(x, "goes 1;minds 1;wears 1;");
        }
        x.force(5);
        x.dusk(999);
        Check.feed(x, " ".repeat(160));
        int[] want = {6, 64, 999, 6, 5, 160};
        for (int what = 0; what < 6; what++) {
            due("count(" + what + ")", x.count(what), want[what]);
        }
        due("count(6)", x.count(6), -2);
        due("count(-1)", x.count(-1), -2);
    }

    private static void sleeperOfEach() {
        for (int kindMore = 0; kindMore < 60; kindMore++) {
            promise(9);
            due("sleeper(" + kindMore + ", 0)", x.sleeper(kindMore, 0), 0);
            due("KIND", x.told(0, 5), kindMore / 10);
            due("MORE", x.told(0, 6), kindMore % 10);
        }
        for (int cell = 0; cell < 64; cell++) {
            promise(9);
            for (int way = 0; way < 10; way++) {
                int cellWay = 10 * cell + way;
                due("sleeper(0, " + cellWay + ")", x.sleeper(0, cellWay), way < 4 ? way : -2);
                due("CELL", x.told(way, 0), way < 4 ? cell : -5000);
                due("WAY", x.told(way, 1), way < 4 ? way : -5000);
            }
        }
        promise(9);
        due("in WATER, too", x.flood(63, 1), 0);
        due("in WATER, too", x.sleeper(59, 633), 0);
        due("two in one CELL", x.sleeper(59, 633), 1);
    }

    private static void putFirstAndLast() {
        int[] most = {63, 3, 15, 99, 99};
        for (int what = 0; what < 5; what++) {
            promise(10);
            x.sleeper(0, 0);
            Check.sock(x, 0, new int[16]);
            int was = what == 4 ? 99 : 0;
            for (int v = 0; v <= most[what]; v++) {
                due("put(0, " + what + ", " + v + ")", x.put(0, what, v), was);
                due("told", x.told(0, what), v);
                was = v;
            }
            due("one more", x.put(0, what, most[what] + 1), -7);
            due("-1", x.put(0, what, -1), -7);
            due("as it was", x.told(0, what), most[what]);
            for (int other = 0; other < 5; other++) {
                due("nothing else", other == what ? 0 : x.told(0, other), other == what || other < 4 ? 0 : 99);
            }
        }
        for (int size = 1; size <= 16; size++) {
            promise(10);
            x.sleeper(0, 0);
            Check.sock(x, 0, new int[size]);
            due("NEXT of " + size, x.put(0, 2, size - 1), 0);
            due("NEXT beyond " + size, x.put(0, 2, size), -7);
        }
        promise(10);
        sixSleepers();
        due("the last one", x.put(5, 0, 63), 5);
        due("nobody", x.put(6, 0, 63), -5);
    }

    private static void toldFirstAndLast() {
        promise(11);
        sixSleepers();
        Check.sock(x, 5, 0, 1, 2, 3, 4, 0, 1, 2, 3, 4, 0, 1, 2, 3, 4, 3);
        for (int k = 0; k < 16; k++) {
            due("stitch " + k, x.told(5, 20 + k), k < 15 ? k % 5 : 3);
        }
        due("stitch 16", x.told(5, 36), -7000);
        due("19", x.told(5, 19), -7000);
        due("11", x.told(5, 11), -7000);
        due("10", x.told(5, 10), 16);
        for (int p = 0; p < 5; p++) {
            due("one stitch", x.told(p, 10), 1);
            due("stitch 0", x.told(p, 20), 0);
            due("stitch 1", x.told(p, 21), -7000);
        }
    }

    private static void knitEach() {
        for (int sort = 0; sort < 3; sort++) {
            for (int stitch = -1; stitch <= 5; stitch++) {
                promise(12);
                x.sleeper(0, 0);
                Check.sock(x, 0, 4, 4, 4);
                x.put(0, 2, 2);
                Check.row(x, 0, sort, stitch);
                boolean is = stitch >= 0 && stitch <= 4;
                due("a sock of " + stitch, x.knit(0, 0), is ? 1 : -2);
                due("how many", x.told(0, 10), is ? 1 : 3);
                due("NEXT", x.told(0, 2), is ? 0 : 2);
                due("stitch", x.told(0, 20), is ? stitch : 4);
            }
        }
        promise(12);
        x.sleeper(0, 0);
        Check.row(x, 0, 0, 256 + 3, -256);
        due("of bytes the lowest 8 bits", x.knit(0, 0), 2);
        due("3", x.told(0, 20), 3);
        due("0", x.told(0, 21), 0);
        Check.row(x, 0, 1, 65536 + 4, 256);
        due("256 as a short is no stitch", x.knit(0, 0), -2);
        x.cell(0, 1, -65536 + 2);
        due("of shorts the lowest 16 bits", x.knit(0, 0), 2);
        due("4", x.told(0, 20), 4);
        due("2", x.told(0, 21), 2);
        Check.row(x, 0, 2, 65536 + 4);
        due("an int is all of it", x.knit(0, 0), -2);
        sixSleepers();
        Check.row(x, 0, 0, 1, 1);
        due("the last one", x.knit(0, 5), 2);
        due("no other one's", x.told(4, 10), 1);
        due("nobody", x.knit(0, 6), -5);
    }

    private static void darnFirstAndLast() {
        for (int size = 1; size <= 16; size++) {
            promise(13);
            x.sleeper(0, 0);
            x.sleeper(0, 0);
            Check.sock(x, 0, new int[size]);
            Check.sock(x, 1, new int[size]);
            due("the last stitch", x.darn(0, size - 1, 4), 0);
            due("the same", x.darn(0, size - 1, 4), 4);
            due("0 again", x.darn(0, size - 1, 0), 4);
            due("3", x.darn(0, size - 1, 3), 0);
            due("behind the last", x.darn(0, size, 1), -7);
            due("-1", x.darn(0, -1, 1), -7);
            due("the first", x.darn(0, 0, 2), size == 1 ? 3 : 0);
            for (int k = 0; k < size; k++) {
                due("stitch " + k, x.told(0, 20 + k), k == 0 ? 2 : k == size - 1 ? 3 : 0);
                due("the other one's", x.told(1, 20 + k), 0);
            }
            due("NEXT as it was", x.told(0, 2), 0);
        }
    }

    private static void runFirstAndLast() {
        promise(15);
        due("nobody, no miles", x.run(0, 0), 0);
        due("nobody minds", x.run(40, 1), 0);
        due("no twos", x.run(40, 2), 0);
        due("nobody's cell", x.run(0, 10), -100000);
        due("nobody's wet", x.run(0, 20), -100000);
        law("goes 20;minds 99;wears 0;");
        for (int p = 0; p < 6; p++) {
            x.sleeper(0, 270 + p % 4);
            x.darn(p, 0, 2);
            x.put(p, 3, p);
        }
        due("40 nights of 20 of six", x.run(40, 0), 4800);
        due("39", x.run(39, 0), 4680);
        due("0", x.run(0, 0), 0);
        due("41", x.run(41, 0), -100000);
        due("-1", x.run(-1, 0), -100000);
        due("all mind", x.run(40, 1), 594);
        due("six in one cell are fifteen twos", x.run(40, 2), 15);
        due("now, too", x.run(0, 2), 15);
        for (int p = 0; p < 6; p++) {
            due("cell", x.run(40, 10 + p), 27);
            due("wet", x.run(40, 20 + p), p);
        }
        for (int what : new int[] {-1, 3, 9, 16, 19, 26, 27}) {
            due("run(0, " + what + ")", x.run(0, what), -100000);
        }
        x.put(5, 0, 63);
        due("five are ten twos", x.run(0, 2), 10);
        x.put(4, 0, 63);
        due("four and two are seven", x.run(0, 2), 7);
        promise(15);
        law("goes 0;minds -99;wears 0;");
        for (int p = 0; p < 6; p++) {
            x.sleeper(0, 10 * p);
        }
        due("all mind below 0", x.run(40, 1), -594);
        due("six cells, no twos", x.run(40, 2), 0);
        promise(15);
        x.sleeper(0, 2);
        due("one is not two", x.run(0, 2), 0);
        due("one is not two", x.run(40, 2), 0);
        x.sleeper(0, 2);
        due("two are one two", x.run(0, 2), 1);
        due("two are one two", x.run(40, 2), 1);
        x.sleeper(0, 12);
        due("a third beside them", x.run(0, 2), 1);
        due("that comes to them", x.run(1, 2), 3);
    }

    private static void trackFirstAndLast() {
        promise(16);
        due("of nobody", x.track(40, -1), 0);
        due("nobody", x.track(0, 0), NO);
        x.sleeper(0, 562);
        for (int p = 1; p < 6; p++) {
            x.sleeper(0, 630);
        }
        due("the last one, the last cell", x.track(40, 5), Long.MIN_VALUE);
        due("bit 56", x.track(40, 0), 1L << 56);
        x.put(5, 1, 2);
        due("ways that meet, of all", x.track(40, -1), 0xffL << 56);
        x.put(0, 1, 0);
        due("one way, by two", x.track(40, -1), 0xffL << 56);
        x.put(5, 1, 0);
        x.put(0, 1, 2);
        due("all", x.track(40, -1), Long.MIN_VALUE | 1L << 56);
        due("0 nights", x.track(0, 0), 1L << 56);
        due("no seventh", x.track(40, 6), NO);
        due("41", x.track(41, 0), NO);
        due("-1", x.track(-1, 0), NO);
        due("-3", x.track(0, -3), NO);
        x.flood(63, 1);
        x.flood(0, 1);
        for (int n : new int[] {0, 40, 41, -1, MIN, MAX}) {
            due("n does not matter", x.track(n, -2), Long.MIN_VALUE + 1);
        }
        promise(16);
        law("goes column<2;minds 0;wears 0;");
        x.sleeper(0, 0);
        due("night by night", x.track(1, 0), 3);
        due("night by night", x.track(2, 0), 7);
        due("no more", x.track(40, 0), 7);
        Check.sock(x, 0, 0, 2, 2);
        law("goes 4;minds 0;wears 0;");
        due("be it on the way", x.track(1, 0), 1 | 2 | 1 << 9 | 1 << 8);
    }

    private static void comesFirstAndLast() {
        promise(17);
        law("goes (wet=0)*(wool=1);minds 0;wears 1;");
        x.sleeper(0, 0);
        // wool is 1 ahead of night k, if it is k now, and one goes to cell 1 in that night alone
        int[] wools = {1, 2, 59, 60, 61, 62};
        int[] nights = {1, 2, 59, 60, -1, -1};
        for (int i = 0; i < wools.length; i++) {
            x.put(0, 4, wools[i]);
            due("comes(0, 1)", x.comes(0, 1), nights[i]);
            due("comes(0, 0)", x.comes(0, 0), 0);
            due("comes(0, 63)", x.comes(0, 63), -1);
        }
        x.put(0, 0, 63);
        due("now", x.comes(0, 63), 0);
        due("64", x.comes(0, 64), -7);
        due("-1", x.comes(0, -1), -7);
        x.put(0, 0, 62);
        x.put(0, 4, 60);
        due("the last cell behind the last night", x.comes(0, 63), 60);
    }

    private static void meetFirstAndLast() {
        promise(18);
        law("goes wool=1;minds 0;wears 1;");
        x.sleeper(0, 0);
        x.sleeper(0, 10);
        x.put(1, 4, 0);
        int[] wools = {1, 2, 59, 60, 61, 62};
        int[] nights = {1, 2, 59, 60, -1, -1};
        for (int i = 0; i < wools.length; i++) {
            x.put(0, 4, wools[i]);
            due("meet(0, 1)", x.meet(0, 1), nights[i]);
            due("meet(1, 0)", x.meet(1, 0), nights[i]);
        }
        x.put(1, 0, 0);
        due("now", x.meet(0, 1), 0);
        due("one and the same", x.meet(1, 1), -5);
        promise(18);
        sixSleepers();
        due("the last two", x.meet(4, 5) >= -1 ? 1 : 0, 1);
        due("no such two", x.meet(5, 6), -5);
        due("no such two", x.meet(6, 5), -5);
    }

    private static void alikeLongest() {
        promise(19);
        x.sleeper(0, 0);
        x.sleeper(0, 0);
        for (int size = 1; size <= 16; size++) {
            for (int other = 1; other <= 16; other += 5) {
                x = new BedsocksKeepRoads();
                x.sleeper(0, 0);
                x.sleeper(0, 0);
                int[] a = new int[size];
                int[] b = new int[other];
                java.util.Arrays.fill(a, 4);
                java.util.Arrays.fill(b, 4);
                Check.sock(x, 0, a);
                Check.sock(x, 1, b);
                due("240 at most", x.alike(0, 1, 0), 240);
                due("of unlike sizes", x.alike(0, 1, 1), size == other ? 0 : -1);
                x.darn(0, size - 1, 3);
                due("till the last stitch", x.alike(0, 1, 0), size - 1);
                x.put(0, 2, size - 1);
                due("none", x.alike(0, 1, 0), 0);
                x.put(0, 2, 0);
                x.darn(1, other - 1, 3);
                int want = size == other ? 240 : Math.min(size, other) - 1;
                due("till the shorter one's last", x.alike(0, 1, 0), want);
                due("likewise the other way", x.alike(1, 0, 0), want);
            }
        }
        promise(19);
        x.sleeper(0, 0);
        x.sleeper(0, 0);
        Check.sock(x, 0, 1, 0, 1, 0, 1, 0, 1, 0, 1, 0, 1, 0, 1, 0, 2);
        Check.sock(x, 1, 1, 0);
        due("round the shorter one", x.alike(0, 1, 0), 14);
        x.put(0, 2, 14);
        x.darn(1, 0, 2);
        due("round the longer one", x.alike(0, 1, 0), 1);
        due("one and the same", x.alike(0, 0, 0), 240);
        due("one and the same", x.alike(1, 1, 1), 0);
    }

    private static void alikeLeastTurn() {
        for (int size = 1; size <= 16; size++) {
            for (int by = 0; by < size; by++) {
                promise(19);
                x.sleeper(0, 0);
                x.sleeper(0, 0);
                int[] a = new int[size];
                int[] b = new int[size];
                a[0] = 4;
                b[by] = 4;
                Check.sock(x, 0, a);
                Check.sock(x, 1, b);
                due("STITCH k of the one is STITCH k and that of the other", x.alike(0, 1, 1), by);
                due("the other way", x.alike(1, 0, 1), (size - by) % size);
                x.put(0, 2, size - 1);
                due("NEXT does not matter", x.alike(0, 1, 1), by);
                x.darn(1, by, 3);
                due("not at all", x.alike(0, 1, 1), -1);
                due("not at all", x.alike(1, 0, 1), -1);
            }
        }
        promise(19);
        x.sleeper(0, 0);
        x.sleeper(0, 0);
        Check.sock(x, 0, 1, 2, 1, 2);
        Check.sock(x, 1, 2, 1, 2, 1);
        due("the least of two", x.alike(0, 1, 1), 1);
        due("what, though sizes are unlike", x.alike(0, 1, 2), -7);
        Check.sock(x, 1, 2, 1, 1, 2);
        due("as many of each, in another order", x.alike(0, 1, 1), -1);
    }

    private static void anewFirstAndLast() {
        for (int k = 0; k < 16; k++) {
            promise(20);
            law("goes 1;minds 0;wears 0;");
            x.sleeper(0, 270);
            Check.sock(x, 0, new int[16]);
            x.put(0, 2, k);
            x.flood(28, 1);
            due("a bridge at " + k, x.anew(0, 28, 1, 0), 10 * k + 4);
            due("so near", x.anew(0, 28, 1, 1), 0);
            due("as is, one is there already", x.anew(0, 27, 1, 0), -1);
            due("as is", x.anew(0, 27, 1, 1), 0);
            due("left at " + k, x.anew(0, 19, 1, 0), 10 * k + 1);
            due("right at " + k, x.anew(0, 35, 1, 0), 10 * k + 2);
            due("nothing is knit", x.told(0, 20 + k), 0);
        }
        promise(20);
        x.sleeper(0, 0);
        due("as far as can be", x.anew(0, 63, 0, 1), 14);
        due("none", x.anew(0, 63, 0, 0), -1);
        x.put(0, 0, 63);
        due("as far the other way", x.anew(0, 0, 0, 1), 14);
        x.put(0, 0, 7);
        due("columns and rows", x.anew(0, 56, 0, 1), 14);
        x.put(0, 0, 9);
        due("columns and rows", x.anew(0, 34, 0, 1), 4);
        due("20 nights", x.anew(0, 9, 20, 1) >= 0 ? 1 : 0, 1);
        due("21 nights", x.anew(0, 9, 21, 1), -7);
        due("-1 nights", x.anew(0, 9, -1, 1), -7);
        due("cell 64", x.anew(0, 64, 0, 1), -7);
        due("cell -1", x.anew(0, -1, 0, 1), -7);
    }

    private static void anewOfLikeOnes() {
        promise(20);
        law("goes 2;minds 0;wears 0;");
        x.sleeper(0, 0);
        Check.sock(x, 0, 0, 0);
        // to 0, as is 2 away behind a night: of the first stitch, 1 leads to none (0 away), 3 too; 2 leads down
        due("of like ones the first", x.anew(0, 0, 1, 0), 1);
        due("how far", x.anew(0, 0, 1, 1), 0);
        // to 2 it is as near as can be; the same stitch again is no nearer
        due("if nearer than so", x.anew(0, 2, 1, 0), -1);
        // to 1: the second stitch as 1 (none above), or 3; the first as 1, 2, 3 is farther or as far
        due("the first stitch of like ones", x.anew(0, 1, 1, 0), 11);
        due("how far", x.anew(0, 1, 1, 1), 0);
        promise(20);
        law("goes 1;minds 0;wears 0;");
        x.sleeper(0, 270);
        Check.sock(x, 0, 3, 3, 3);
        x.put(0, 2, 1);
        due("of two nights two stitches would do: the first place", x.anew(0, 28, 2, 0), 10);
        x.put(0, 2, 2);
        due("places are from the sock's beginning, not from NEXT", x.anew(0, 28, 2, 0), 0);
        due("0 and 4 are alike: the first", x.anew(0, 28, 1, 0), 20);
    }

    private static void drainFirstAndLast() {
        promise(21);
        due("dry land, nobody", x.drain(20, 0), -1);
        due("dry land, nobody", x.drain(20, 1), 0);
        x.sleeper(0, 0);
        due("dry land", x.drain(20, 0), -1);
        due("as so", x.drain(20, 1), 7);
        due("0 nights", x.drain(0, 1), 0);
        due("21", x.drain(21, 0), -2);
        due("-1", x.drain(-1, 0), -2);
        for (int c = 0; c < 64; c++) {
            x.flood(c, 1);
        }
        due("each cell WATER: the one ahead", x.drain(20, 0), 1);
        due("one mile", x.drain(20, 1), 1);
        due("none in no night", x.drain(0, 0), -1);
        x.put(0, 0, 1);
        x.put(0, 1, 2);
        due("cell 0", x.drain(1, 0), 0);
        x.put(0, 0, 62);
        x.put(0, 1, 0);
        due("cell 63", x.drain(1, 0), 63);
        x.put(0, 0, 27);
        x.sleeper(0, 271);
        due("of like ones the first", x.drain(1, 0), 28);
        x.sleeper(0, 343);
        x.sleeper(0, 271);
        due("two come by one", x.drain(1, 0), 35);
        due("two miles", x.drain(1, 1), 2);
        due("nothing is drained", x.count(1), 64);
        for (int c = 0; c < 64; c++) {
            x.flood(c, c == 35 || c == 51 ? 1 : 0);
        }
        due("dry land else", x.drain(1, 0), 35);
        due("two come on by that one, one as is", x.drain(1, 1), 2 * 2 + 4 + 4);
        x.flood(35, 0);
        due("the other one then", x.drain(1, 0), 51);
        due("two come on", x.drain(1, 1), 2 * 4 + 4 + 4);
    }

    private static void turnFirstAndLast() {
        promise(22);
        x.sleeper(0, 271);
        due("of like ones the first", x.turn(0, 40, 0), 0);
        due("none wet", x.turn(0, 40, 1), 0);
        int[] ring = {28, 35, 26, 19};
        for (int dry = 0; dry < 4; dry++) {
            for (int way = 0; way < 4; way++) {
                x.flood(ring[way], way == dry ? 0 : 1);
            }
            due("the dry way", x.turn(0, 1, 0), dry);
            due("0", x.turn(0, 1, 1), 0);
            due("in no night all are alike", x.turn(0, 0, 0), 0);
        }
        x.flood(19, 1);
        due("none is dry", x.turn(0, 40, 0), 0);
        due("40", x.turn(0, 40, 1), 40);
        x.put(0, 3, 60);
        due("99 at most", x.turn(0, 40, 1), 99);
        x.put(0, 3, 59);
        due("99", x.turn(0, 40, 1), 99);
        x.put(0, 3, 58);
        due("98", x.turn(0, 40, 1), 98);
        x.put(0, 3, 99);
        due("as much by each way", x.turn(0, 40, 0), 0);
        due("41", x.turn(0, 41, 0), -7);
        due("-1", x.turn(0, -1, 0), -7);
        due("one looks as one looked", x.told(0, 1), 1);
        noFifthWay();
    }

    /** By each of the four ways one is wet; a fifth one, going as 3 does but turning otherwise, would not be. */
    private static void noFifthWay() {
        promise(22);
        x.sleeper(0, 360);
        Check.sock(x, 0, 0, 1, 3);
        for (int c : new int[] {37, 44, 35, 27}) {
            x.flood(c, 1);
        }
        due("the first of four", x.turn(0, 1, 0), 0);
        due("wet by each", x.turn(0, 1, 1), 1);
    }

    private static void shareFirstAndLast() {
        promise(23);
        law("goes 16;minds 0;wears 0;");
        x.sleeper(0, 10);
        Check.sock(x, 0, 0, 0, 0, 0, 0, 0, 2, 2, 0, 0, 0, 0, 0, 0, 1, 1);
        due("above", x.share(1, 0), 17);
        due("below", x.share(1, 1), 64);
        due("above", x.share(3, 0), 49);
        due("all but cell 0", x.share(40, 0), 63);
        due("of 64", x.share(40, 1), 64);
        due("cells", x.track(40, -1), -2L);
        x.sleeper(0, 0);
        x.darn(1, 0, 3);
        due("all: 1", x.share(40, 0), 1);
        due("of 1", x.share(40, 1), 1);
        due("cells", x.track(40, -1), -1L);
        due("2 cells now", x.share(0, 0), 1);
        due("of 32", x.share(0, 1), 32);
        promise(23);
        due("nobody: 0", x.share(0, 0), 0);
        due("of 1", x.share(0, 1), 1);
    }

    private static void judgeFirstAndLast() {
        promise(24);
        law("goes 1;minds 0;wears 0;");
        x.sleeper(0, 270);
        Check.sock(x, 0, 2, 2, 2, 2);
        int[] round = {35, 34, 26, 27};
        x.sheet(0, 0, 20);
        for (int i = 0; i < 20; i++) {
            x.cell(0, i, round[i % 4]);
        }
        due("20 as told", x.judge(0, 0), -1);
        for (int i = 19; i >= 0; i--) {
            x.cell(0, i, 63);
            due("the first that is otherwise", x.judge(0, 0), i);
        }
        Check.row(x, 1, 2);
        due("none told", x.judge(1, 0), -1);
        int[] wrong = {-1, 64, 35 + 64, 35 + 256, 35 + 65536, 35 - 256, MIN, MAX};
        for (int number : wrong) {
            Check.row(x, 1, 2, number);
            due("an int " + number, x.judge(1, 0), 0);
            Check.row(x, 1, 1, number);
            due("a short " + number, x.judge(1, 0), (short) number == 35 ? -1 : 0);
            Check.row(x, 1, 0, number);
            due("a byte " + number, x.judge(1, 0), (byte) number == 35 ? -1 : 0);
        }
        x.sheet(1, 2, 21);
        due("21 told", x.judge(1, 0), -2);
        x.sheet(1, 2, 20);
        due("20 told", x.judge(1, 0), 0);
    }

    private static void kindsFirstAndLast() {
        int[][] rows = {
            // more, wool, the cell behind a night of the first law from cell 0; the kinds
            {9, 99, 4, 0b110101}, {9, 99, 7, 0b001010}, {9, 99, 8, 0}, {8, 99, 7, 0b001010}, {3, 99, 3, 0b100000}, {0, 99, 1, 0b001000}, {0, 99, 0, 0b100010},
            {9, 0, 0, 0b010111}, {9, 0, 1, 0b001000}, {9, 0, 4, 0b100000}, {9, 9, 1, 0b010100}, {9, 10, 2, 0b010100},
        };
        for (int[] row : rows) {
            for (int kind = 0; kind < 6; kind++) {
                promise(25);
                x.sleeper(10 * kind + row[0], 0);
                x.put(0, 4, row[1]);
                Check.row(x, 0, 0, row[2]);
                due("kinds, more " + row[0] + " wool " + row[1] + " cell " + row[2], x.kinds(0, 0, 0), row[3]);
                due("one's kind is as it was", x.told(0, 5), kind);
            }
        }
        promise(25);
        sixSleepers();
        Check.row(x, 0, 0);
        due("none told: all", x.kinds(0, 5, 0), 63);
        due("none told: all", x.kinds(0, 5, 1), 1023);
        due("sort 2", x.kinds(0, 5, 2), -7);
        due("sort -1", x.kinds(0, 5, -1), -7);
    }

    private static void moreFirstAndLast() {
        for (int more = 0; more < 10; more++) {
            promise(25);
            x.sleeper(53, 0);
            law("goes 20;minds 0;wears 0;");
            Check.row(x, 0, 0, Math.min(7, more));
            due("a priest of more " + more, x.kinds(0, 0, 1), more < 7 ? 1 << more : 0b1110000000);
            due("one's MORE is as it was", x.told(0, 6), 3);
            law("goes more;minds 0;wears 0;");
            x.sleeper(0, 560);
            Check.row(x, 0, 0, 56 + Math.min(7, more));
            due("a sleeper, by a text", x.kinds(0, 1, 1), more < 7 ? 1 << more : 0b1110000000);
        }
    }

    private static void beginsFirstAndLast() {
        for (int c = 0; c < 64; c++) {
            promise(26);
            law("goes 0;minds 0;wears 0;");
            x.sleeper(0, 270);
            Check.row(x, 0, 0, c, c);
            due("begins in " + c, x.begins(0, 0), 1L << c);
            x.cell(0, 1, c ^ 1);
            due("nowhere", x.begins(0, 0), 0);
            due("one is where one was", x.told(0, 0), 27);
        }
        promise(26);
        x.sleeper(0, 0);
        Check.row(x, 0, 2);
        due("none told: everywhere", x.begins(0, 0), -1L);
        Check.row(x, 0, 2, -1);
        due("no cell", x.begins(0, 0), 0);
        x.cell(0, 0, 64);
        due("no cell", x.begins(0, 0), 0);
        x.cell(0, 0, MIN);
        due("no cell", x.begins(0, 0), 0);
        x.sheet(0, 0, 20);
        due("20 told", x.begins(0, 0), 0);
        x.sheet(0, 0, 21);
        due("21 told", x.begins(0, 0), NO);
    }

    private static void waysFirstAndLast() {
        int[] beside = {28, 35, 26, 19};
        for (int way = 0; way < 4; way++) {
            promise(27);
            law("goes 1;minds 0;wears 0;");
            x.sleeper(0, 270 + 3 - way);
            Check.row(x, 0, 0, beside[way]);
            due("way " + way, x.ways(0, 0, 1), 1 << way);
            due("one looks as one looked", x.told(0, 1), 3 - way);
        }
        for (int k = 0; k < 16; k++) {
            promise(27);
            law("goes 1;minds 0;wears 0;");
            x.sleeper(0, 270);
            Check.sock(x, 0, new int[16]);
            x.darn(0, k, 1);
            x.put(0, 2, 15 - k);
            Check.row(x, 0, 0, 19);
            due("stitch " + k, x.ways(0, 0, 2), 1 << k);
            due("NEXT is as it was", x.told(0, 2), 15 - k);
            Check.row(x, 0, 0, 28, 20);
            due("stitch " + k + " in the second night", x.ways(0, 0, 2), 1 << (k + 15) % 16);
            x.cell(0, 1, 63);
            due("none", x.ways(0, 0, 2), 0);
            x.sheet(0, 0, 0);
            due("none told: all stitches", x.ways(0, 0, 2), 0xffff);
            due("none told: all ways", x.ways(0, 0, 1), 15);
        }
        promise(27);
        x.sleeper(0, 0);
        x.sheet(0, 0, 0);
        due("none told, a sock of one", x.ways(0, 0, 2), 1);
        due("sort 0", x.ways(0, 0, 0), -7);
        due("sort 3", x.ways(0, 0, 3), -7);
    }

    private static void whoseAndLaws() {
        promise(28);
        Check.row(x, 0, 0);
        due("nobody's", x.whose(0), 0);
        sixSleepers();
        due("none told: all", x.whose(0), 63);
        law("goes 0;minds 0;wears 0;");
        for (int p = 0; p < 6; p++) {
            x.put(p, 0, 8 * p + 2);
        }
        for (int p = 0; p < 6; p++) {
            // a GIRL goes 1, though a SLEEPER goes 0
            Check.row(x, 0, 0, 8 * p + (p == 3 ? 3 : 2));
            due("whose, " + p, x.whose(0), 1 << p);
        }
        x.sheet(0, 0, 20);
        due("20 told", x.whose(0), 0);
        x.sheet(0, 0, 21);
        due("21 told", x.whose(0), -2);
        promise(29);
        x.sleeper(0, 0);
        for (int goes : new int[] {5, 6, 7, 2, 5}) {
            Check.text(x, "goes " + goes + ";minds 0;wears 0;");
        }
        int[] cells = {0, 2, 4, 5, 6, 7};
        int[] bits = {0, 1 << 4, 1, 1 << 1 | 1 << 5, 1 << 2, 1 << 3};
        for (int i = 0; i < 6; i++) {
            Check.row(x, 0, 0, cells[i]);
            due("by which texts to " + cells[i], x.laws(0, 0), bits[i]);
            due("the law is as it was", x.count(4), 0);
        }
        x.sheet(0, 0, 0);
        due("none told: all", x.laws(0, 0), 63);
    }

    private static void filmFirstAndLast() {
        for (int n = 0; n <= 20; n++) {
            for (int sort = -1; sort < 3; sort++) {
                promise(30);
                law("goes 1;minds 0;wears 0;");
                x.sleeper(0, 551);
                Check.sock(x, 0, 0, 2, 2, 2, 2);
                x.sheet(0, sort, 40);
                due("film(0, 0, " + n + ")", x.film(0, 0, n), n);
                due("bytes", x.sleepersBy(0, 0, 0, 0), 0);
                due("no shorts", x.sleepersBy(0, 1, 0, 0), -13);
                due("no ints", x.sleepersBy(0, 2, 0, 0), -13);
                due("so many", x.cell(0, n, 0), -12);
                due("as told", x.judge(0, 0), -1);
                due("one is where one was", x.told(0, 0), 55);
                due("NIGHT is as it was", x.count(2), 0);
                x.put(0, 0, 0);
                due("otherwise from the first on", x.judge(0, 0), n == 0 ? -1 : 0);
            }
        }
        promise(30);
        x.sleeper(0, 630);
        due("-1", x.film(0, 0, -1), -7);
        due("21", x.film(0, 0, 21), -7);
        due("missing still", x.cell(0, 0, 0), -11);
        due("the last sheet", x.film(3, 0, 1), 1);
        Check.row(x, 2, 0, 63);
        x.copy(3, 0, 2, 0, 1);
        due("cell 63", x.begins(2, 0) >>> 63, 1);
    }

    private static void drawnFirstAndLast() {
        promise(31);
        due("nobody, no miles", x.drawn(0, 0), 0);
        due("nobody, no twos", x.drawn(99999, 1), 0);
        law("goes 20;minds 0;wears 0;");
        for (int p = 0; p < 6; p++) {
            x.sleeper(0, 270);
            Check.sock(x, p, 4);
        }
        due("bridges: floods bar none", x.drawn(0, 0), 24);
        due("bridges: floods bar none", x.drawn(99999, 0), 24);
        due("six in one cell", x.drawn(0, 1), 15);
        due("100000", x.drawn(100000, 0), -2);
        due("-1", x.drawn(-1, 0), -2);
        due("what 2", x.drawn(0, 2), -2);
        due("what -1", x.drawn(0, -1), -2);
        promise(31);
        law("goes 1;minds 0;wears 0;");
        x.sleeper(0, 0);
        Check.sock(x, 0, 4);
        due("seven of eight nights", x.drawn(0, 0), 7);
        x.put(0, 0, 56);
        x.put(0, 1, 3);
        due("eight nights, seven cells", x.drawn(1, 0), 7);
        law("goes 2;minds 0;wears 0;");
        x.put(0, 0, 0);
        x.put(0, 1, 0);
        Check.sock(x, 0, 4, 3);
        due("a mile and a bog in each night", x.drawn(1, 0), 7);
        Check.sock(x, 0, 4, 4, 4, 4, 4, 4, 4, 3);
        due("in the fourth night the row's end", x.drawn(1, 0), 7);
    }

    private static void oddsFirstAndLast() {
        promise(32);
        law("goes 1;minds 0;wears 0;");
        x.sleeper(0, 0);
        x.darn(0, 0, 4);
        for (int seeds = 1; seeds <= 40; seeds++) {
            due("7 or more, by all", x.odds(99999, seeds, 7, 0), 1);
            due("7 or more, by all", x.odds(99999, seeds, 7, 1), 1);
            due("8 or more, by none", x.odds(0, seeds, 8, 0), 0);
            due("8 or more, by none", x.odds(0, seeds, 8, 1), 1);
        }
        due("0 or more", x.odds(0, 1, 0, 0), 1);
        due("999 or more", x.odds(0, 1, 999, 0), 0);
        due("least 1000", x.odds(0, 1, 1000, 0), NO);
        due("least -1", x.odds(0, 1, -1, 0), NO);
        due("seeds 0", x.odds(0, 0, 0, 0), NO);
        due("seeds 41", x.odds(0, 41, 0, 0), NO);
        due("seed 100000", x.odds(100000, 1, 0, 0), NO);
        due("seed -1", x.odds(-1, 1, 0, 0), NO);
        due("part 2", x.odds(0, 1, 0, 2), NO);
        due("part -1", x.odds(0, 1, 0, -1), NO);
        x.darn(0, 0, 0);
        for (int seed = 0; seed < 20; seed++) {
            int miles = x.drawn(seed, 0);
            due("as many", x.odds(seed, 1, miles, 0), 1);
            due("1 more", x.odds(seed, 1, miles + 1, 0), 0);
        }
        int above = 0;
        for (int seed = 300; seed < 340; seed++) {
            above += x.drawn(seed, 0) >= 6 ? 1 : 0;
        }
        int common = java.math.BigInteger.valueOf(above).gcd(java.math.BigInteger.valueOf(40)).intValue();
        due("in lowest terms", x.odds(300, 40, 6, 0), above / common);
        due("in lowest terms", x.odds(300, 40, 6, 1), 40 / common);
    }

    private static void imageAndBack() {
        promise(34);
        due("there is none", x.back(), -3);
        x.sleeper(0, 0);
        due("there is none", x.back(), -3);
        due("one", x.count(0), 1);
        promise(33);
        due("none", x.image(), 0);
        for (int p = 0; p < 6; p++) {
            x.sleeper(0, 0);
            due("how many", x.image(), p + 1);
        }
        due("how many", x.back(), 6);
        promise(34);
        x.image();
        due("none", x.back(), 0);
        due("again", x.back(), 0);
        x.dusk(999);
        x.image();
        x.dusk(0);
        x.back();
        due("NIGHT 999", x.count(2), 999);
    }

    private static void sheetFirstAndLast() {
        for (int s = 0; s < 4; s++) {
            for (int sort = 0; sort < 3; sort++) {
                for (int n = 0; n <= 40; n += 8) {
                    promise(35);
                    due("sheet", x.sheet(s, sort, n), 1);
                    due("its sort", x.sleepersBy(s, sort, 0, 0), 0);
                    due("not another", x.sleepersBy(s, (sort + 1) % 3, 0, 0), -13);
                    due("not another", x.sleepersBy(s, (sort + 2) % 3, 0, 0), -13);
                    due("the last", x.cell(s, n - 1, 1), n == 0 ? -12 : 1);
                    due("behind", x.cell(s, n, 1), -12);
                    due("no other sheet", x.cell((s + 1) % 4, 0, 1), -11);
                    due("anew", x.sheet(s, sort, Math.min(n, 16)), 1);
                    x.sleeper(0, 0);
                    Check.sock(x, 0, 1);
                    due("all 0", n == 0 || s == 3 ? 1 : x.knit(s, 0), n == 0 || s == 3 ? 1 : Math.min(n, 16));
                    due("all 0", x.told(0, 20 + x.told(0, 10) - 1), n == 0 || s == 3 ? 1 : 0);
                }
            }
        }
        for (int n : new int[] {0, 40, 41, -1, MIN, MAX}) {
            promise(35);
            x.sheet(0, 0, 3);
            due("n does not matter", x.sheet(0, -1, n), 1);
            due("missing", x.cell(0, 0, 1), -11);
            due("missing again", x.sheet(0, -1, n), 1);
        }
    }

    /** What stands there is told by who comes: cell by cell, way by way; a number below 0 is none of sleeper()'s. */
    private static void cellLowestBits() {
        int[][] rows = {
            // sort, v, what is read
            {0, 0, 0}, {0, 127, 127}, {0, 128, -128}, {0, 129, -127}, {0, 255, -1}, {0, 256, 0}, {0, 257, 1}, {0, -1, -1}, {0, -128, -128}, {0, -129, 127},
            {0, 383, 127}, {0, 512 + 50, 50}, {0, MIN, 0}, {0, MAX, -1}, {0, MIN + 33, 33}, {0, 200, -56}, {0, 633, 121},
            {1, 0, 0}, {1, 633, 633}, {1, 255, 255}, {1, 32767, 32767}, {1, 32768, -32768}, {1, 65535, -1}, {1, 65536, 0}, {1, 65536 + 633, 633},
            {1, -65536 + 633, 633}, {1, -32768, -32768}, {1, MIN, 0}, {1, MAX, -1}, {1, 256, 256},
            {2, 0, 0}, {2, 633, 633}, {2, 65536, 65536}, {2, 65536 + 633, 65536 + 633}, {2, MIN, MIN}, {2, MAX, MAX}, {2, -1, -1}, {2, 256, 256},
        };
        for (int[] row : rows) {
            promise(36);
            law("goes 0;minds 0;wears 0;");
            x.sheet(0, row[0], 2);
            due("cell(0, 1, " + row[1] + ") of sort " + row[0], x.cell(0, 1, row[1]), 1);
            boolean is = row[2] >= 0 && row[2] < 640 && row[2] % 10 < 4;
            due("who comes by it", x.sleepersBy(0, row[0], 0, 1), is ? 1 : 0);
            due("whose cell", x.told(0, 0), is ? row[2] / 10 : -5000);
            due("whose way", x.told(0, 1), is ? row[2] % 10 : -5000);
            x.sleeper(0, 0);
            Check.row(x, 1, row[0], 0);
            x.copy(0, 1, 1, 0, 1);
            due("where one began by it", x.begins(1, 0), row[2] >= 0 && row[2] < 64 ? 1L << row[2] : 0);
        }
        promise(36);
        x.sheet(3, 0, 40);
        due("the last sheet's last", x.cell(3, 39, 9), 1);
        due("behind it", x.cell(3, 40, 9), -12);
        due("-1", x.cell(3, -1, 9), -12);
        due("sheet 4", x.cell(4, 0, 9), -2);
    }

    private static void numbersAre(int s, int sort, int... want) {
        for (int i = 0; i < want.length; i++) {
            x.sheet(3, sort, 1);
            due("number " + i, x.copy(s, i, 3, 0, 1), 1);
            due("number " + i, x.begins(3, 0), 1L << want[i]);
        }
        due("no more", x.cell(s, want.length, 0), -12);
    }

    private static void copyFirstAndLast() {
        for (int sort = 0; sort < 3; sort++) {
            promise(37);
            law("goes 0;minds 0;wears 0;");
            x.sleeper(0, 0);
            Check.row(x, 0, sort, 1, 2, 3, 4, 5);
            Check.row(x, 1, sort, 11, 12, 13);
            due("all of the shorter", x.copy(1, 0, 0, 0, 3), 3);
            numbersAre(0, sort, 11, 12, 13, 4, 5);
            due("to the end", x.copy(1, 0, 0, 2, 3), 3);
            numbersAre(0, sort, 11, 12, 11, 12, 13);
            due("one too far", x.copy(1, 0, 0, 3, 3), -12);
            due("one too many", x.copy(1, 0, 0, 0, 4), -12);
            due("from the end", x.copy(1, 2, 0, 4, 1), 1);
            due("none from behind the end to behind the end", x.copy(1, 3, 0, 5, 0), 0);
            due("none from farther", x.copy(1, 4, 0, 5, 0), -12);
            due("none to farther", x.copy(1, 3, 0, 6, 0), -12);
            numbersAre(0, sort, 11, 12, 11, 12, 13);
            numbersAre(1, sort, 11, 12, 13);
            Check.row(x, 0, sort, 1, 2, 3, 4, 5);
            due("its own, on by one", x.copy(0, 0, 0, 1, 4), 4);
            numbersAre(0, sort, 1, 1, 2, 3, 4);
            due("its own, back by two", x.copy(0, 2, 0, 0, 3), 3);
            numbersAre(0, sort, 2, 3, 4, 3, 4);
            due("its own, all", x.copy(0, 0, 0, 0, 5), 5);
            numbersAre(0, sort, 2, 3, 4, 3, 4);
        }
        promise(37);
        x.sheet(0, 2, 40);
        x.sheet(1, 2, 40);
        due("40", x.copy(0, 0, 1, 0, 40), 40);
        due("41", x.copy(0, 0, 1, 0, 41), -12);
        x.sheet(1, 2, 0);
        due("none to none", x.copy(1, 0, 1, 0, 0), 0);
        due("one to none", x.copy(0, 0, 1, 0, 1), -12);
    }

    private static void sleepersByFirstAndLast() {
        for (int sort = 0; sort < 3; sort++) {
            for (int n = 0; n <= 6; n++) {
                for (int size = 0; size <= 13; size++) {
                    promise(38);
                    x.sheet(0, sort, size);
                    for (int i = 0; i < size; i++) {
                        x.cell(0, i, i % 2 == 0 ? 10 * (i / 2 % 6) : 10 * (i / 2));
                    }
                    boolean all = 2 * n <= size;
                    due(n + " by " + size, x.sleepersBy(0, sort, 0, n), all ? n : -12);
                    due("what stood ahead came", x.count(0), all ? n : size / 2);
                    int came = x.count(0);
                    for (int p = 0; p < came; p++) {
                        due("kind", x.told(p, 5), p);
                        due("cell", x.told(p, 0), p);
                    }
                }
            }
        }
        promise(38);
        Check.row(x, 0, 2, 0, 0, 0, 0);
        due("from 2 on", x.sleepersBy(0, 2, 2, 1), 1);
        due("from 3 on", x.sleepersBy(0, 2, 3, 1), -12);
        due("from 4 on", x.sleepersBy(0, 2, 4, 1), -12);
        due("from -1 on", x.sleepersBy(0, 2, -1, 1), -12);
        due("from -2 on", x.sleepersBy(0, 2, -2, 2), -12);
        due("from 1 on", x.sleepersBy(0, 2, 1, 1), 1);
        due("two came", x.count(0), 2);
        x.sheet(0, 2, 40);
        due("the last two", x.sleepersBy(0, 2, 38, 1), 1);
        due("one number alone", x.sleepersBy(0, 2, 39, 1), -12);
        for (int from : new int[] {MAX, MAX - 1, MIN, MIN + 1, MIN + 2}) {
            due("from " + from, x.sleepersBy(0, 2, from, 6), -12);
        }
        due("three", x.count(0), 3);
    }

    private static void sleepersByLeavesOut() {
        promise(38);
        Check.row(x, 0, 2, 60, 0, 0, 4, -1, 0, 0, -1, 0, 640, 59, 633);
        due("others are left out", x.sleepersBy(0, 2, 0, 6), 1);
        due("who came", x.told(0, 5), 5);
        due("who came", x.told(0, 0), 63);
        due("none of those", x.sleepersBy(0, 2, 0, 5), 0);
        due("the place is found though those ahead are left out", x.sleepersBy(0, 2, 2, 6), -12);
        due("one more came", x.count(0), 2);
        Check.row(x, 0, 2, new int[12]);
        due("FULL: others are left out", x.sleepersBy(0, 2, 0, 6), 4);
        due("six", x.count(0), 6);
        due("FULL: all are left out", x.sleepersBy(0, 2, 0, 6), 0);
        due("FULL, and outside", x.sleepersBy(0, 2, 2, 6), -12);
        due("six", x.count(0), 6);
    }

    private static void takenFirstAndLast() {
        promise(39);
        due("nobody yet", x.taken(0, 0), -11);
        due("nobody's wool", x.taken(6, 6), -11);
        sixSleepers();
        for (int p = 0; p < 6; p++) {
            x.put(p, 4, 10 * p);
            due("a sleeper", x.taken(p, 0), p);
            due("wool", x.taken(6 + p, 6), 10 * p);
            int[] isA = {0b000001, 0b000011, 0b000101, 0b001011, 0b010101, 0b100001};
            for (int kind = 0; kind < 6; kind++) {
                due(p + " as " + kind, x.taken(p, kind), (isA[p] >> kind & 1) == 1 ? p : -13);
                due("wool as " + kind, x.taken(6 + p, kind), -13);
            }
            due("a sleeper is no wool", x.taken(p, 6), -13);
            due("wool is no sleeper", x.taken(6 + p, 0), -13);
        }
        due("place 12", x.taken(12, 0), -12);
        due("place 12", x.taken(12, 6), -12);
        due("place -1", x.taken(-1, 0), -12);
        due("kind 7", x.taken(0, 7), -2);
        due("kind -1", x.taken(0, -1), -2);
    }
}
