/** The sentences of the document's section 'Terms' about the land, sleepers, kinds, nights, floods and images: their edges. */
public final class TermsTest {
    private static final Check CHECK = new Check();
    private static BedsocksKeepRoads x;

    private static void term(String sentence) {
        CHECK.at(sentence);
        x = new BedsocksKeepRoads();
    }

    private static void due(String call, long got, long want) {
        CHECK.due(call, got, want);
    }

    private static void law(String text) {
        x.force(Check.text(x, text));
    }

    public static void main(String[] args) {
        columnsAndRows();
        noWaterAtFirst();
        waysGoToTheCellBeside();
        noCellBeyondTheLand();
        leftAndRightRound();
        nightIsUpTo999();
        nightPasses999InThought();
        sixSleepers();
        asOneComes();
        sockOfSixteen();
        nextGoesRound();
        sleeperGoes();
        babyGoes();
        oldGoes();
        girlGoes();
        deadGoes();
        priestGoes();
        minds();
        wears();
        namesOfTexts();
        saidWithinBounds();
        oneByOneByNumbers();
        toldAheadOfTheStitches();
        soManyStitches();
        bogEndsTheNight();
        turnsThenGoes();
        staysAtTheEdge();
        staysAtWater();
        wetAtMost();
        bridges();
        woolAtLeast();
        milesAndNight();
        floodsToggle();
        floodsAreInThought();
        eightNights();
        seedsAndLots();
        imageKeepsOneThing();
        imageKeepsNoOther();
        imageOfSix();
        sheetsAtFirst();
        CHECK.end();
    }

    // ---- cells, ways, numbers

    private static void columnsAndRows() {
        for (int c = 0; c < 64; c++) {
            term("CELL modulo 8 is the COLUMN, CELL by 8 (cut) the ROW");
            law("goes 0;minds column;wears row;");
            x.sleeper(0, 10 * c);
            due("column of " + c, x.asks(1, 0), c - c / 8 * 8);
            due("row of " + c, x.asks(2, 0), (c - c % 8) / 8);
        }
    }

    private static void noWaterAtFirst() {
        for (int c = 0; c < 64; c++) {
            term("in each WATER or none (none at first)");
            due("none in " + c, x.flood(c, 0), 0);
            due("none in " + c, x.flood(c, 1), 0);
            due("that alone", x.track(0, -2), 1L << c);
            due("some in " + c, x.flood(c, 0), 1);
            due("none again", x.track(0, -2), 0);
        }
        term("in each WATER");
        for (int c = 0; c < 64; c++) {
            x.flood(c, 1);
        }
        due("in all", x.track(0, -2), -1L);
        due("in all", x.count(1), 64);
    }

    private static void waysGoToTheCellBeside() {
        int[] columns = {1, 0, -1, 0};
        int[] rows = {0, 1, 0, -1};
        for (int c = 0; c < 64; c++) {
            term("0 a COLUMN further, 1 a ROW further, 2 a COLUMN back, 3 a ROW back");
            law("goes 1;minds 0;wears 0;");
            x.sleeper(0, 10 * c);
            for (int way = 0; way < 4; way++) {
                int column = c % 8 + columns[way];
                int row = c / 8 + rows[way];
                boolean there = column >= 0 && column < 8 && row >= 0 && row < 8;
                x.put(0, 0, c);
                x.put(0, 1, way);
                due("miles from " + c + " by " + way, x.night(), there ? 1 : 0);
                due("from " + c + " by " + way, x.told(0, 0), there ? 8 * row + column : c);
                due("one looks so still", x.told(0, 1), way);
                due("no wetter", x.told(0, 3), 0);
            }
        }
    }

    private static void noCellBeyondTheLand() {
        int[][] rows = {{0, 0, 7}, {1, 0, 56}, {2, 7, 0}, {3, 56, 0}, {0, 56, 63}, {1, 7, 63}, {2, 63, 56}, {3, 63, 7}};
        for (int[] row : rows) {
            term("a row's end is no other row's beginning");
            x.sleeper(0, 10 * row[1] + row[0]);
            due("behind 40 nights", x.run(40, 10), row[2]);
            due("seven miles", x.run(40, 0), 7);
            due("eight cells", Long.bitCount(x.track(40, 0)), 8);
        }
    }

    private static void leftAndRightRound() {
        int[] left = {3, 0, 1, 2};
        int[] right = {1, 2, 3, 0};
        for (int way = 0; way < 4; way++) {
            for (int stitch = 1; stitch <= 2; stitch++) {
                term("LEFT of a WAY is that 3 further, RIGHT that 1 further, round");
                law("goes 1;minds 0;wears 0;");
                x.sleeper(0, 270 + way);
                x.darn(0, 0, stitch);
                for (int turns = 0; turns < 5; turns++) {
                    int was = x.told(0, 1);
                    x.night();
                    due("stitch " + stitch + " by way " + was, x.told(0, 1), stitch == 1 ? left[was] : right[was]);
                }
            }
        }
    }

    private static void nightIsUpTo999() {
        term("NIGHT (0 .. 999; 0 at first)");
        due("0 at first", x.count(2), 0);
        due("dusk(999)", x.dusk(999), 0);
        due("dusk(1000)", x.dusk(1000), -2);
        due("dusk(-1)", x.dusk(-1), -2);
        due("dusk(998)", x.dusk(998), 999);
        due("998 to 999", x.night(), 0);
        due("999", x.count(2), 999);
        due("not to 1000", x.night(), -3);
        due("999", x.count(2), 999);
        due("dusk(0)", x.dusk(0), 999);
        due("0", x.count(2), 0);
    }

    /** 999 and 1002 are nights modulo 3 of 0: in these alone a girl's wool wears off; with less than 98 she goes 3, else 1. */
    private static void nightPasses999InThought() {
        int[][] rows = {{999, 1, 2, 3, 4, 7, 7}, {998, 1, 2, 3, 4, 5, 7}, {997, 1, 2, 3, 4, 5, 6}};
        for (int[] row : rows) {
            term("in thought it may pass 999, from " + row[0]);
            law("goes wool<98;minds 0;wears 1;");
            x.sleeper(39, 0);
            x.dusk(row[0]);
            int[] cells = java.util.Arrays.copyOfRange(row, 1, 7);
            Check.row(x, 0, 2, cells);
            long trail = 1;
            for (int n = 1; n <= 6; n++) {
                due("run", x.run(n, 10), cells[n - 1]);
                due("miles", x.run(n, 0), cells[n - 1]);
                trail |= (2L << cells[n - 1]) - 1;
                due("track", x.track(n, 0), trail);
                due("track of all", x.track(n, -1), trail);
                due("share", x.share(n, 0) * (64 / x.share(n, 1)), cells[n - 1] + 1);
                due("anew", x.anew(0, cells[n - 1], n, 1), 0);
                due("drain", x.drain(n, 1), cells[n - 1]);
            }
            nightPasses999InTold(row);
        }
    }

    private static void nightPasses999InTold(int[] row) {
        due("judge", x.judge(0, 0), -1);
        due("kinds", x.kinds(0, 0, 0), 8);
        due("begins", x.begins(0, 0), 1);
        due("ways", x.ways(0, 0, 1), 1);
        due("ways", x.ways(0, 0, 2), 1);
        due("whose", x.whose(0), 1);
        due("laws", x.laws(0, 0), 2);
        due("film", x.film(1, 0, 6), 6);
        due("judge of it", x.judge(1, 0), -1);
        due("comes", x.comes(0, 4), 4);
        due("comes", x.comes(0, 5), row[5] == 5 ? 5 : -1);
        due("comes", x.comes(0, 7), row[5] == 7 ? 5 : row[6] == 7 ? 6 : 7);
        x.sleeper(40, 10 * row[5]);
        x.put(1, 4, 0);
        due("meet", x.meet(0, 1), 5);
        x.flood(row[5], 1);
        due("turn", x.turn(0, 5, 1), 0);
        x.put(0, 0, 56);
        x.flood(row[5], 0);
        due("eight nights of a flood by lots, none of them in her row", x.drawn(dryRow(), 0), 7);
    }

    /** A seed of no lot in the lowest row. */
    private static int dryRow() {
        for (int seed = 0; seed < 1000; seed++) {
            int inRow = 0;
            for (int c : cellsOf(seed)) {
                inRow += c >= 56 ? 1 : 0;
            }
            if (inRow == 0) {
                return seed;
            }
        }
        return -1;
    }

    // ---- sleepers

    private static void sixSleepers() {
        term("numbered from 0 on, 6 at most");
        for (int p = 0; p < 6; p++) {
            due("nobody yet", x.told(p, 0), -5000);
            due("the number", x.sleeper(p, 10 * p), p);
            due("so many", x.count(0), p + 1);
        }
        due("no seventh", x.sleeper(0, 0), -4);
        due("six", x.count(0), 6);
        for (int p = 0; p < 6; p++) {
            due("cell", x.told(p, 0), p);
            due("more", x.told(p, 6), p);
        }
        due("nobody", x.told(6, 0), -5000);
    }

    private static void asOneComes() {
        for (int kind = 0; kind < 6; kind++) {
            for (int more = 0; more < 10; more += 9) {
                term("one STITCH of 0, NEXT 0, WET 0, WOOL 99, as one comes");
                x.sleeper(10 * kind + more, 633);
                int[] want = {63, 3, 0, 0, 99, kind, more};
                for (int what = 0; what < 7; what++) {
                    due("told(0, " + what + ")", x.told(0, what), want[what]);
                }
                due("one stitch", x.told(0, 10), 1);
                due("of 0", x.told(0, 20), 0);
                due("no second", x.told(0, 21), -7000);
            }
        }
    }

    private static void sockOfSixteen() {
        for (int size = 1; size <= 17; size++) {
            term("a SOCK of 1 .. 16 STITCHES (0 .. 4)");
            x.sleeper(0, 0);
            int[] stitches = new int[size];
            for (int k = 0; k < size; k++) {
                stitches[k] = (k + size) % 5;
            }
            Check.row(x, 0, 0, stitches);
            due("knit of " + size, x.knit(0, 0), size < 17 ? size : -2);
            due("how many", x.told(0, 10), size < 17 ? size : 1);
            for (int k = 0; k < size && size < 17; k++) {
                due("stitch " + k, x.told(0, 20 + k), stitches[k]);
            }
            due("no further one", x.told(0, 20 + size), -7000);
        }
    }

    private static void nextGoesRound() {
        for (int size = 1; size <= 16; size++) {
            term("NEXT is 1 further, round the SOCK");
            law("goes 1;minds stitch;wears 0;");
            x.sleeper(0, 270);
            Check.sock(x, 0, new int[size]);
            for (int k = 0; k <= size; k++) {
                due("next", x.told(0, 2), k % size);
                due("its name in texts", x.asks(1, 0), k % size);
                x.put(0, 0, 27);
                x.night();
            }
            x.put(0, 2, size - 1);
            x.night();
            due("behind the last the first", x.told(0, 2), 0);
        }
        term("round more than once in a night");
        law("goes 20;minds 0;wears 0;");
        x.sleeper(0, 273);
        Check.sock(x, 0, 1, 1, 1);
        due("twenty miles", x.night(), 20);
        due("20 modulo 3", x.told(0, 2), 2);
        due("where one was", x.told(0, 0), 27);
    }

    // ---- kinds

    private static void goes(String of, int kind, int more, int wool, int want) {
        int p = x.sleeper(10 * kind + more, 0);
        x.put(p, 4, wool);
        due(of + " more " + more + " wool " + wool + " goes", x.told(p, 7), want);
    }

    private static void sleeperGoes() {
        term("SLEEPER: GOES 0, if WOOL is 0, else that");
        goes("a sleeper", 0, 0, 0, 0);
        goes("a sleeper", 0, 0, 1, 4);
        goes("a sleeper", 0, 9, 99, 4);
        law("goes 20;minds 0;wears 0;");
        goes("a sleeper", 0, 0, 1, 20);
        law("goes 0;minds 0;wears 0;");
        goes("a sleeper", 0, 0, 99, 0);
    }

    private static void babyGoes() {
        for (int more = 0; more < 10; more++) {
            term("BABY: GOES twice a SLEEPER's, modulo MORE and 1");
            goes("a baby", 1, more, 99, new int[] {0, 0, 2, 0, 3, 2, 1, 0, 8, 8}[more]);
            goes("a baby", 1, more, 1, new int[] {0, 0, 2, 0, 3, 2, 1, 0, 8, 8}[more]);
            goes("a baby", 1, more, 0, 0);
            law("goes 20;minds 0;wears 0;");
            goes("a baby", 1, more, 50, 40 % (more + 1));
            goes("a girl", 3, more, 50, 40 % (more + 1) + 1);
        }
        term("twice is ahead of modulo");
        law("goes 7;minds 0;wears 0;");
        goes("a baby", 1, 4, 99, 4);
    }

    private static void oldGoes() {
        int[] wools = {0, 1, 9, 10, 19, 20, 29, 30, 39, 40, 89, 90, 99};
        int[] atTwenty = {0, 1, 1, 2, 2, 3, 3, 4, 4, 5, 9, 10, 10};
        for (int i = 0; i < wools.length; i++) {
            term("OLD: GOES as a SLEEPER, but 1 and WOOL by 10 (cut) at most");
            goes("an old one", 2, 9, wools[i], Math.min(4, atTwenty[i]));
            goes("a dead one", 4, 9, wools[i], Math.min(4, atTwenty[i]));
            law("goes 20;minds 0;wears 0;");
            goes("an old one", 2, 0, wools[i], atTwenty[i]);
            goes("a dead one", 4, 0, wools[i], atTwenty[i]);
            law("goes 0;minds 0;wears 0;");
            goes("an old one", 2, 0, wools[i], 0);
        }
    }

    private static void girlGoes() {
        for (int more = 0; more < 10; more++) {
            term("GIRL: GOES 1 more than a BABY");
            goes("a girl", 3, more, 99, new int[] {1, 1, 3, 1, 4, 3, 2, 1, 9, 9}[more]);
            goes("a girl without wool", 3, more, 0, 1);
            law("goes 0;minds 0;wears 0;");
            goes("a girl where a sleeper goes 0", 3, more, 99, 1);
        }
        term("a girl without wool goes truly");
        x.sleeper(33, 0);
        x.put(0, 4, 0);
        due("night()", x.night(), 1);
    }

    private static void deadGoes() {
        term("DEAD goes as an OLD, whatever WET and MORE are");
        x.sleeper(49, 0);
        x.put(0, 3, 99);
        x.put(0, 4, 25);
        due("goes", x.told(0, 7), 3);
        due("night()", x.night(), 3);
        due("no wool wears off", x.told(0, 4), 25);
    }

    private static void priestGoes() {
        for (int more = 0; more < 10; more++) {
            term("PRIEST: GOES that, MORE at most, WOOL or none");
            goes("a priest", 5, more, 99, Math.min(4, more));
            goes("a priest", 5, more, 1, Math.min(4, more));
            goes("a priest", 5, more, 0, Math.min(4, more));
            law("goes 20;minds 0;wears 0;");
            goes("a priest", 5, more, 0, more);
            law("goes 0;minds 0;wears 0;");
            goes("a priest", 5, more, 99, 0);
        }
        term("a priest without wool goes truly");
        x.sleeper(53, 0);
        x.put(0, 4, 0);
        due("night()", x.night(), 3);
        due("wool 0 at least", x.told(0, 4), 0);
    }

    private static void minds() {
        int[][] rows = {
            // said, kind, more, wet, minds
            {99, 0, 0, 0, 99}, {-99, 0, 9, 99, -99}, {99, 1, 0, 0, 109}, {-99, 1, 0, 0, -89}, {99, 2, 9, 0, 99},
            {99, 3, 0, 0, 109}, {-99, 3, 0, 0, -89}, {-10, 3, 5, 0, 0}, {99, 5, 9, 99, 99},
            {99, 4, 0, 0, 0}, {99, 4, 0, 1, 99}, {99, 4, 9, 8, 0}, {99, 4, 9, 9, 0}, {99, 4, 9, 10, 99}, {-99, 4, 5, 5, 0}, {-99, 4, 5, 6, -99},
        };
        for (int[] row : rows) {
            term("MINDS: that; BABY 10 more; DEAD as an OLD, if WET is above MORE, else 0");
            law("goes 0;minds " + row[0] + ";wears 0;");
            x.sleeper(10 * row[1] + row[2], 0);
            x.put(0, 3, row[3]);
            String of = "kind " + row[1] + " more " + row[2] + " wet " + row[3] + " said " + row[0];
            due("minds, " + of, x.told(0, 8), row[4]);
            due("all together, " + of, x.run(0, 1), row[4]);
        }
    }

    private static void wears() {
        int[][] rows = {
            // said, kind, more, night, wears
            {99, 0, 9, 0, 99}, {99, 1, 9, 1, 99}, {0, 1, 9, 1, 0}, {99, 2, 9, 0, 108}, {0, 2, 0, 1, 0}, {0, 2, 9, 1, 9}, {5, 2, 1, 1, 6},
            {99, 3, 9, 0, 99}, {99, 3, 9, 1, 0}, {99, 3, 9, 2, 0}, {99, 3, 9, 3, 99}, {99, 3, 0, 997, 0}, {99, 3, 0, 998, 0}, {99, 3, 0, 999, 99},
            {99, 4, 9, 0, 0}, {0, 4, 9, 0, 0}, {99, 5, 0, 1, 198}, {1, 5, 9, 0, 2}, {0, 5, 9, 0, 0},
        };
        for (int[] row : rows) {
            term("WEARS: that; OLD MORE more; GIRL if NIGHT modulo 3 is 0, else 0; DEAD 0; PRIEST twice");
            law("goes 0;minds 0;wears " + row[0] + ";");
            x.sleeper(10 * row[1] + row[2], 0);
            x.dusk(row[3]);
            String of = "kind " + row[1] + " more " + row[2] + " night " + row[3] + " said " + row[0];
            due("wears, " + of, x.told(0, 9), row[4]);
            if (row[3] < 999) {
                x.night();
                due("wool, " + of, x.told(0, 4), Math.max(0, 99 - row[4]));
            }
        }
    }

    // ---- what a text says

    private static void named(String name, int want) {
        law("goes 0;minds " + name + ";wears " + name + ";");
        due(name, x.asks(1, 0), want);
        due(name, x.asks(2, 0), want);
    }

    private static void namesOfTexts() {
        int[][] rows = {{0, 0, 0, 0, 0, 0}, {15, 7, 7, 99, 99, 9}, {15, 0, 7, 0, 99, 0}, {0, 7, 0, 99, 0, 9}, {1, 2, 3, 4, 5, 6}};
        for (int[] row : rows) {
            for (int half = 0; half < 2; half++) {
                term("NAMES: stitch column row wet wool more");
                x.sleeper(row[5], 10 * (8 * row[2] + row[1]));
                Check.sock(x, 0, 4, 4, 4, 4, 4, 4, 4, 4, 4, 4, 4, 4, 4, 4, 4, 4);
                x.put(0, 2, row[0]);
                x.put(0, 3, row[3]);
                x.put(0, 4, row[4]);
                named(half == 0 ? "stitch" : "wet", row[half == 0 ? 0 : 3]);
                named(half == 0 ? "column" : "wool", row[half == 0 ? 1 : 4]);
                named(half == 0 ? "row" : "more", row[half == 0 ? 2 : 5]);
            }
        }
    }

    private static void said(String e, int goes, int minds, int wears) {
        term("goes 0 .. 20, minds -99 .. 99, wears 0 .. 99, else the bound");
        law("goes " + e + ";minds " + e + ";wears " + e + ";");
        x.sleeper(0, 0);
        due("goes " + e, x.asks(0, 0), goes);
        due("minds " + e, x.asks(1, 0), minds);
        due("wears " + e, x.asks(2, 0), wears);
        due("goes " + e, x.told(0, 7), goes);
        due("minds " + e, x.told(0, 8), minds);
        due("wears " + e, x.told(0, 9), wears);
    }

    private static void saidWithinBounds() {
        said("0", 0, 0, 0);
        said("1", 1, 1, 1);
        said("-1", 0, -1, 0);
        said("19", 19, 19, 19);
        said("20", 20, 20, 20);
        said("21", 20, 21, 21);
        said("98", 20, 98, 98);
        said("99", 20, 99, 99);
        said("100", 20, 99, 99);
        said("-98", 0, -98, 0);
        said("-99", 0, -99, 0);
        said("-100", 0, -99, 0);
        said("9999", 20, 99, 99);
        said("-9999", 0, -99, 0);
        said("8192*8192*32-1", 20, 99, 99);
        said("8192*8192*32", 0, -99, 0);
        said("8192*8192*64", 0, 0, 0);
        term("what is added by a KIND comes behind the bounds");
        law("goes 99;minds 999;wears 999;");
        x.sleeper(29, 0);
        x.sleeper(19, 0);
        x.sleeper(50, 0);
        due("wears", x.told(0, 9), 108);
        due("asks", x.asks(2, 0), 99);
        due("minds", x.told(1, 8), 109);
        due("asks", x.asks(1, 1), 99);
        due("goes 2 * 20 modulo 10", x.told(1, 7), 0);
        due("wears twice", x.told(2, 9), 198);
    }

    // ---- a night

    private static void oneByOneByNumbers() {
        term("one by one: a night of each is whole ahead of the next one's");
        x.flood(1, 1);
        x.sleeper(0, 0);
        x.sleeper(0, 22);
        due("nobody's way is barred by another", x.night(), 0);
        due("wet", x.told(0, 3), 1);
        due("wet", x.told(1, 3), 1);
        x.flood(1, 0);
        due("past one another", x.night(), 4 + 2);
        due("cell", x.told(0, 0), 4);
        due("cell", x.told(1, 0), 0);
    }

    private static void toldAheadOfTheStitches() {
        term("it is told how many STITCHES one GOES, how much WEARS off; then STITCH by STITCH");
        law("goes 3 - column;minds 0;wears 10 * (column + 1);");
        x.sleeper(0, 0);
        due("three, though fewer would be told then", x.night(), 3);
        due("ten, though more would be told then", x.told(0, 4), 89);
        due("column 3", x.night(), 0);
        due("forty", x.told(0, 4), 49);
        term("WOOL is less at last: not ahead of the stitches");
        law("goes 2;minds 0;wears 99;");
        x.sleeper(0, 0);
        x.sleeper(29, 80);
        due("both go", x.night(), 4);
        due("wool", x.told(0, 4), 0);
        due("nobody goes", x.night(), 0);
    }

    private static void soManyStitches() {
        for (int goes = 0; goes <= 20; goes++) {
            term("STITCH by STITCH, so many");
            law("goes " + goes + ";minds 0;wears 0;");
            x.sleeper(0, 270);
            Check.sock(x, 0, 2, 2, 2, 2, 2, 2, 2, 2, 2, 2, 2, 2, 2, 2, 2, 2);
            due("miles", x.night(), goes);
            due("next", x.told(0, 2), goes % 16);
            due("way", x.told(0, 1), goes % 4);
            due("cell", x.told(0, 0), new int[] {27, 35, 34, 26}[goes % 4]);
        }
    }

    private static void bogEndsTheNight() {
        term("by 3 (a bog) one goes no more in this NIGHT");
        x.sleeper(0, 0);
        Check.sock(x, 0, 0, 3, 3, 0);
        due("one mile", x.night(), 1);
        due("next is behind the bog", x.told(0, 2), 2);
        due("way as it was", x.told(0, 1), 0);
        due("wool wears off", x.told(0, 4), 98);
        due("the second bog", x.night(), 0);
        due("next", x.told(0, 2), 3);
        due("wool wears off", x.told(0, 4), 97);
        due("goes on in another night", x.night(), 2);
        due("cell", x.told(0, 0), 3);
        due("no wetter", x.told(0, 3), 0);
        term("a bog of one stitch");
        x.sleeper(0, 0);
        x.darn(0, 0, 3);
        due("never", x.run(40, 0), 0);
        due("there", x.track(40, 0), 1);
    }

    private static void turnsThenGoes() {
        term("by 1 one looks LEFT, by 2 RIGHT; then one is in the CELL that WAY");
        x.sleeper(0, 270);
        Check.sock(x, 0, 1, 1, 2, 2);
        due("four miles", x.night(), 4);
        due("up, back, up, on", x.told(0, 0), 27 - 8 - 1 - 8 + 1);
        due("way", x.told(0, 1), 0);
        term("one looks so though there is none, or WATER");
        law("goes 1;minds 0;wears 0;");
        x.sleeper(0, 0);
        x.darn(0, 0, 1);
        due("none", x.night(), 0);
        due("looks left", x.told(0, 1), 3);
        due("none", x.night(), 0);
        due("looks left", x.told(0, 1), 2);
        x.flood(8, 1);
        due("water", x.night(), 0);
        due("looks left", x.told(0, 1), 1);
        due("wet", x.told(0, 3), 1);
    }

    private static void staysAtTheEdge() {
        term("is there none, one stays, and goes no more");
        x.sleeper(0, 60);
        Check.sock(x, 0, 0, 0, 2, 2, 0);
        due("one mile", x.night(), 1);
        due("cell 7", x.told(0, 0), 7);
        due("next is behind the stitch that led to none", x.told(0, 2), 2);
        due("no wetter", x.told(0, 3), 0);
        due("wool wears off", x.told(0, 4), 98);
        due("down, back, on, on", x.night(), 4);
        term("a bridge leads to no cell that is none");
        x.sleeper(0, 70);
        x.darn(0, 0, 4);
        due("none", x.night(), 0);
        due("no wetter", x.told(0, 3), 0);
    }

    private static void staysAtWater() {
        term("is there WATER in it, and the STITCH isn't 4, one stays, WET is 1 more, one goes no more");
        for (int stitch = 0; stitch < 3; stitch++) {
            x = new BedsocksKeepRoads();
            x.sleeper(0, 270);
            Check.sock(x, 0, stitch, 0);
            x.flood(28, 1);
            x.flood(19, 1);
            x.flood(35, 1);
            due("stays by stitch " + stitch, x.night(), 0);
            due("cell", x.told(0, 0), 27);
            due("once wet, though four would be gone", x.told(0, 3), 1);
            due("next", x.told(0, 2), 1);
            due("wool wears off", x.told(0, 4), 98);
        }
        term("one in WATER oneself goes on to dry land");
        x.sleeper(0, 0);
        x.flood(0, 1);
        due("four miles", x.night(), 4);
        due("no wetter", x.told(0, 3), 0);
    }

    private static void wetAtMost() {
        int[][] rows = {{0, 1}, {1, 2}, {97, 98}, {98, 99}, {99, 99}};
        for (int[] row : rows) {
            term("WET is 1 more (99 at most)");
            x.flood(1, 1);
            x.sleeper(0, 0);
            x.put(0, 3, row[0]);
            x.night();
            due("behind " + row[0], x.told(0, 3), row[1]);
            x.put(0, 3, row[0]);
            due("in thought", x.run(1, 20), row[1]);
            due("in forty nights", x.run(40, 20), Math.min(99, row[0] + 40));
            due("turn", x.turn(0, 40, 1), row[0]);
        }
    }

    private static void bridges() {
        term("the STITCH isn't 4 (a bridge)");
        x.sleeper(0, 0);
        Check.sock(x, 0, 4, 4, 0);
        x.flood(1, 1);
        x.flood(2, 1);
        x.flood(4, 1);
        due("over two, then dry, then a bridge over the next", x.night(), 4);
        due("cell", x.told(0, 0), 4);
        due("no wetter", x.told(0, 3), 0);
        due("next", x.told(0, 2), 1);
        term("a bridge where it is dry is as a stitch of 0");
        x.sleeper(0, 271);
        x.darn(0, 0, 4);
        due("four miles", x.night(), 4);
        due("cell", x.told(0, 0), 59);
        due("way", x.told(0, 1), 1);
    }

    private static void woolAtLeast() {
        int[][] rows = {{99, 0, 99}, {99, 1, 98}, {99, 98, 1}, {99, 99, 0}, {98, 99, 0}, {1, 1, 0}, {1, 2, 0}, {0, 0, 0}, {0, 1, 0}, {0, 99, 0}, {2, 1, 1}};
        for (int[] row : rows) {
            term("WOOL is less by what WEARS off (0 at least)");
            law("goes 1;minds wool;wears " + row[1] + ";");
            x.sleeper(0, 0);
            x.put(0, 4, row[0]);
            due("in thought", x.run(1, 1), row[2]);
            x.night();
            due("of " + row[0] + " less " + row[1], x.told(0, 4), row[2]);
        }
    }

    private static void milesAndNight() {
        term("MILES: how many times anybody comes to another CELL");
        due("nobody", x.night(), 0);
        due("NIGHT is 1 more", x.count(2), 1);
        for (int p = 0; p < 6; p++) {
            x.sleeper(0, 80 * p);
        }
        due("six times four", x.night(), 24);
        due("NIGHT is 1 more", x.count(2), 2);
        due("six times three", x.night(), 18);
        due("none", x.night(), 0);
        due("NIGHT is 1 more", x.count(2), 4);
        term("the same cell again counts");
        law("goes 20;minds 0;wears 0;");
        x.sleeper(0, 270);
        x.darn(0, 0, 2);
        due("round and round", x.night(), 20);
        due("four cells", x.share(1, 0), 1);
        due("of 64", x.share(1, 1), 16);
    }

    // ---- floods

    /** By the document's words, lot 48271 % 64 = 15 is the first one's cell of seed 0. */
    private static int[] cellsOf(int seed) {
        int[] cells = new int[8];
        long lot = (seed + 1L) * 48271 % 2147483647;
        for (int k = 0; k < 8; k++) {
            cells[k] = (int) (lot % 64);
            lot = lot * 48271 % 2147483647;
        }
        return cells;
    }

    private static int floodedTwice() {
        for (int seed = 0; seed < 1000; seed++) {
            int[] cells = cellsOf(seed);
            if (cells[0] == cells[2] && cells[1] != cells[0] && cells[0] % 8 > 1) {
                return seed;
            }
        }
        return -1;
    }

    private static void floodsToggle() {
        term("ahead of each in CELL LOT modulo 64 there is WATER, if there was none, else none");
        int seed = floodedTwice();
        due("there is such a seed", seed >= 0 ? 1 : 0, 1);
        int cell = cellsOf(seed)[0];
        law("goes 1;minds 0;wears 0;");
        x.sleeper(0, 10 * (cell - 1));
        // barred in nights 0 and 1, free in 2: behind eight nights one came on, if ahead is free
        int barred = 0;
        long water = 0;
        int at = cell - 1;
        for (int c : cellsOf(seed)) {
            water ^= 1L << c;
            boolean free = at % 8 < 7 && (water >>> at + 1 & 1) == 0;
            at += free ? 1 : 0;
            barred += free ? 0 : 1;
        }
        due("barred twice or more", barred >= 2 ? 1 : 0, 1);
        due("miles", x.drawn(seed, 0), 8 - barred);
        x.flood(cell, 1);
        due("where there was WATER there is none at first", x.drawn(seed, 0) >= 1 ? 1 : 0, 1);
    }

    private static void floodsAreInThought() {
        term("FLOODS: in thought");
        x.flood(3, 1);
        x.sleeper(0, 0);
        x.dusk(999);
        for (int seed = 0; seed < 20; seed++) {
            long first = x.drawn(seed, 0);
            due("the same again", x.drawn(seed, 0), first);
            due("odds", x.odds(seed, 1, (int) first, 0), 1);
            due("odds", x.odds(seed, 1, (int) first + 1, 0), 0);
        }
        due("water", x.track(0, -2), 8);
        due("night", x.count(2), 999);
        due("cell", x.told(0, 0), 0);
    }

    /** By a text one goes in one night alone: wool is 99 ahead of the first, 92 ahead of the eighth. */
    private static void eightNights() {
        CHECK.at("eight NIGHTS");
        for (int night = 1; night <= 9; night++) {
            x = new BedsocksKeepRoads();
            law("goes wool = " + (100 - night) + ";minds 0;wears 1;");
            x.sleeper(0, 270);
            x.darn(0, 0, 4);
            x.sleeper(0, 270);
            x.darn(1, 0, 3);
            due("a mile in night " + night, x.drawn(0, 0), night <= 8 ? 1 : 0);
            due("two part then", x.drawn(99999, 1), night <= 8 ? 0 : 1);
            due("by all seeds", x.odds(7, 40, 1, 0), night <= 8 ? 1 : 0);
        }
    }

    private static void seedsAndLots() {
        int[] seeds = {0, 1, 44487, 44488, 99998, 99999};
        for (int seed : seeds) {
            term("LOTS: the first is (SEED and 1) times 48271 modulo 2147483647");
            int cell = cellsOf(seed)[0];
            law("goes 1;minds 0;wears 0;");
            // one beside the first lot's cell, and looking at it, comes there behind a night alone if it is dry
            int way = cell % 8 > 0 ? 0 : 2;
            int from = way == 0 ? cell - 1 : cell + 1;
            x.sleeper(0, 10 * from + way);
            int dry = dryMiles(seed, from, way, false);
            due("barred at first, seed " + seed, x.drawn(seed, 0), dry);
            x.flood(cell, 1);
            due("free at first, seed " + seed, x.drawn(seed, 0), dryMiles(seed, from, way, true));
        }
        term("each of the seeds 1 more; they may pass 99999");
        due("40 from 99999 on", x.odds(99999, 40, 0, 1), 1);
        due("1 from 100000 on", x.odds(100000, 1, 0, 1), BedsocksKeepRoads.NO);
    }

    private static int dryMiles(int seed, int from, int way, boolean flooded) {
        int[] cells = cellsOf(seed);
        long water = flooded ? 1L << cells[0] : 0;
        int at = from;
        int miles = 0;
        for (int c : cells) {
            water ^= 1L << c;
            int to = way == 0 ? at + 1 : at - 1;
            boolean there = way == 0 ? at % 8 < 7 : at % 8 > 0;
            if (there && (water >>> to & 1) == 0) {
                at = to;
                miles++;
            }
        }
        return miles;
    }

    // ---- images, sheets

    interface Change {
        void of(BedsocksKeepRoads y);
    }

    private static BedsocksKeepRoads pictured() {
        BedsocksKeepRoads y = new BedsocksKeepRoads();
        y.sleeper(12, 100);
        y.sleeper(34, 203);
        Check.sock(y, 0, 1, 2, 0);
        y.put(0, 2, 1);
        y.put(1, 3, 4);
        y.put(1, 4, 44);
        y.flood(7, 1);
        y.dusk(4);
        Check.text(y, "goes 0;minds 2;wears 3;");
        y.force(1);
        return y;
    }

    private static void imageKeepsOneThing() {
        Change[] changes = {
            y -> y.flood(8, 1), y -> y.flood(7, 0), y -> y.put(0, 0, 63), y -> y.put(1, 0, 0), y -> y.put(0, 1, 3),
            y -> y.put(1, 1, 0), y -> y.darn(0, 0, 4), y -> y.darn(0, 2, 3), y -> y.darn(1, 0, 2), y -> Check.sock(y, 0, 1, 2),
            y -> Check.sock(y, 1, 0, 0), y -> y.put(0, 2, 2), y -> y.put(0, 3, 1), y -> y.put(1, 3, 0), y -> y.put(0, 4, 0),
            y -> y.put(1, 4, 99), y -> y.sleeper(0, 0), y -> y.dusk(5), y -> y.force(0), y -> y.night(),
        };
        for (int i = 0; i < changes.length; i++) {
            CHECK.at("AN IMAGE keeps WATER, CELLS, WAYS, SOCKS, NEXT, WET, WOOL of all, how many, NIGHT, THE LAW");
            BedsocksKeepRoads y = pictured();
            BedsocksKeepRoads z = pictured();
            due("image()", y.image(), 2);
            due("image()", z.image(), 2);
            changes[i].of(y);
            due("back()", y.back(), 2);
            due("as it was, behind change " + i, Probe.of(y).equals(Probe.of(z)) ? 1 : 0, 1);
        }
    }

    private static void imageKeepsNoOther() {
        term("texts, the tape and sheets are as they are");
        x.sleeper(0, 0);
        x.sheet(0, 0, 2);
        Check.feed(x, "goes");
        x.image();
        Check.feed(x, " 2;minds 5;wears 6;");
        due("text()", x.text(), 1);
        x.force(1);
        Check.feed(x, "abcde");
        x.sheet(0, -1, 0);
        x.sheet(1, 2, 40);
        due("back()", x.back(), 1);
        due("texts", x.count(3), 2);
        due("the tape", x.count(5), 5);
        due("a sheet that is missing since", x.cell(0, 0, 0), -11);
        due("a sheet that came since", x.cell(1, 39, 0), 1);
        due("the law is kept", x.count(4), 0);
        due("the text is there", x.force(1), 0);
        due("and says so", x.asks(0, 0), 2);
    }

    private static void imageOfSix() {
        term("an image of none, of six");
        due("of none", x.image(), 0);
        for (int p = 0; p < 6; p++) {
            x.sleeper(10 * p, 10 * p);
        }
        for (int p = 0; p < 6; p++) {
            Check.sock(x, p, 3, 4);
            x.put(p, 2, 1);
            x.put(p, 3, 9);
            x.put(p, 4, 9);
        }
        due("those since are none", x.back(), 0);
        due("nobody", x.told(0, 0), -5000);
        due("nobody", x.count(0), 0);
        for (int p = 0; p < 6; p++) {
            due("numbers are from 0 on again", x.sleeper(50 - 10 * p, 10 * p), p);
            int[] want = {p, 0, 0, 0, 99, 5 - p, 0};
            for (int what = 0; what < 7; what++) {
                due("nothing of those that were is left", x.told(p, what), want[what]);
            }
            due("a sock of one", x.told(p, 10), 1);
            due("of 0", x.told(p, 20), 0);
        }
        due("six", x.image(), 6);
        for (int p = 0; p < 6; p++) {
            x.put(p, 0, 60);
            x.put(p, 4, p);
        }
        due("six", x.back(), 6);
        for (int p = 0; p < 6; p++) {
            due("cell", x.told(p, 0), p);
            due("kind", x.told(p, 5), 5 - p);
            due("wool", x.told(p, 4), 99);
        }
        due("full", x.sleeper(0, 0), -4);
    }

    private static void sheetsAtFirst() {
        for (int s = 0; s < 4; s++) {
            for (int sort = 0; sort < 3; sort++) {
                term("SHEETS 0 .. 3, missing at first; 40 at most");
                due("missing", x.cell(s, 0, 0), -11);
                due("40", x.sheet(s, sort, 40), 1);
                due("the last", x.cell(s, 39, 1), 1);
                due("behind it", x.cell(s, 40, 1), -12);
                due("41", x.sheet(s, sort, 41), -2);
                due("it is as it was", x.cell(s, 39, 1), 1);
                due("0", x.sheet(s, sort, 0), 1);
                due("none in it", x.cell(s, 0, 1), -12);
                due("missing again", x.sheet(s, -1, 0), 1);
                due("missing", x.cell(s, 0, 1), -11);
            }
        }
    }
}
