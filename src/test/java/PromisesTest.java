/** For each promise of the document: ordinary inputs, the edges it names, wrong inputs. */
public final class PromisesTest {
    private static final Check CHECK = new Check();
    private static BedsocksKeepRoads x;

    private static void promise(int number) {
        CHECK.at("promise " + number);
        x = new BedsocksKeepRoads();
    }

    private static void due(String call, long got, long want) {
        CHECK.due(call, got, want);
    }

    public static void main(String[] args) {
        newObject();
        count();
        dusk();
        flood();
        feed();
        faults();
        worths();
        nesting();
        textsFull();
        force();
        asks();
        sleeper();
        put();
        told();
        toldKinds();
        knit();
        darn();
        nightOfOne();
        nightTurnsAndEdges();
        nightWetAndWool();
        nightEnds();
        run();
        track();
        comes();
        meet();
        alike();
        anew();
        drain();
        turn();
        share();
        judge();
        kinds();
        begins();
        ways();
        whose();
        laws();
        film();
        drawn();
        odds();
        image();
        sheet();
        cell();
        copy();
        sleepersBy();
        taken();
        nightsInThought();
        CHECK.end();
    }

    private static void newObject() {
        promise(1);
        due("NONE", BedsocksKeepRoads.NONE, -1);
        due("BAD", BedsocksKeepRoads.BAD, -2);
        due("STATE", BedsocksKeepRoads.STATE, -3);
        due("FULL", BedsocksKeepRoads.FULL, -4);
        due("NO", BedsocksKeepRoads.NO, -4611686018427387904L);
        due("count(0)", x.count(0), 0);
        due("count(1)", x.count(1), 0);
        due("count(2)", x.count(2), 0);
        due("count(3)", x.count(3), 1);
        due("count(4)", x.count(4), 0);
        due("count(5)", x.count(5), 0);
        due("track(0, -2)", x.track(0, -2), 0);
        for (int s = 0; s < 4; s++) {
            due("cell(" + s + ", 0, 0)", x.cell(s, 0, 0), -11);
        }
        due("told(0, 0)", x.told(0, 0), -5000);
        due("back()", x.back(), -3);
    }

    private static void count() {
        promise(2);
        x.sleeper(0, 0);
        x.sleeper(0, 0);
        x.flood(63, 1);
        x.flood(0, 1);
        x.flood(7, 1);
        x.dusk(11);
        Check.text(x, "goes 1;minds 1;wears 1;");
        x.force(1);
        Check.feed(x, "goes");
        due("count(0)", x.count(0), 2);
        due("count(1)", x.count(1), 3);
        due("count(2)", x.count(2), 11);
        due("count(3)", x.count(3), 2);
        due("count(4)", x.count(4), 1);
        due("count(5)", x.count(5), 4);
        due("count(6)", x.count(6), -2);
        due("count(-1)", x.count(-1), -2);
        due("count(MIN)", x.count(Integer.MIN_VALUE), -2);
    }

    private static void dusk() {
        promise(3);
        due("dusk(5)", x.dusk(5), 0);
        due("dusk(999)", x.dusk(999), 5);
        due("dusk(1000)", x.dusk(1000), -2);
        due("dusk(-1)", x.dusk(-1), -2);
        due("count(2)", x.count(2), 999);
        due("dusk(0)", x.dusk(0), 999);
    }

    private static void flood() {
        promise(4);
        due("flood(9, 1)", x.flood(9, 1), 0);
        due("flood(9, 1)", x.flood(9, 1), 1);
        due("track(0, -2)", x.track(0, -2), 512);
        due("flood(9, 0)", x.flood(9, 0), 1);
        due("flood(9, 0)", x.flood(9, 0), 0);
        due("flood(0, 1)", x.flood(0, 1), 0);
        due("flood(63, 1)", x.flood(63, 1), 0);
        due("track(0, -2)", x.track(0, -2), Long.MIN_VALUE + 1);
        due("flood(64, 1)", x.flood(64, 1), -5);
        due("flood(-1, 2)", x.flood(-1, 2), -5);
        due("flood(0, 2)", x.flood(0, 2), -7);
        due("flood(0, -1)", x.flood(0, -1), -7);
        due("count(1)", x.count(1), 2);
    }

    private static void feed() {
        promise(5);
        due("feed(0)", x.feed(0, 1, 1, 1, 1, 1), -2);
        due("feed(6)", x.feed(6, 1, 1, 1, 1, 1), -2);
        due("feed a", x.feed(1, 256, 1, 1, 1, 1), -2);
        due("feed b", x.feed(1, 1, -1, 1, 1, 1), -2);
        due("feed c", x.feed(1, 1, 1, 256, 1, 1), -2);
        due("feed d", x.feed(1, 1, 1, 1, -1, 1), -2);
        due("feed e", x.feed(1, 1, 1, 1, 1, 256), -2);
        due("count(5)", x.count(5), 0);
        due("feed(1)", x.feed(1, 0, 255, 0, 0, 0), 1);
        due("feed(2)", x.feed(2, 0, 255, 0, 0, 0), 3);
        due("feed(3)", x.feed(3, 32, 32, 32, 0, 0), 6);
        due("feed(4)", x.feed(4, 32, 32, 32, 32, 0), 10);
        for (int i = 0; i < 29; i++) {
            due("feed(5)", x.feed(5, 32, 32, 32, 32, 32), 15 + 5 * i);
        }
        due("feed(4)", x.feed(4, 32, 32, 32, 32, 32), 159);
        due("feed(2)", x.feed(2, 32, 32, 32, 32, 32), -4);
        due("feed(2) bad", x.feed(2, 32, 32, 32, 32, 256), -2);
        due("count(5)", x.count(5), 159);
        due("feed(1)", x.feed(1, 32, 32, 32, 32, 32), 160);
        due("feed(1)", x.feed(1, 32, 32, 32, 32, 32), -4);
        due("feed(5)", x.feed(5, 32, 32, 32, 32, 32), -4);
        due("count(5)", x.count(5), 160);
        promise(5);
        String law = "goes 1*2+3;minds 4;wears 5;";
        for (int n = 1; n <= 5; n++) {
            for (int i = 0; i < law.length(); i += n) {
                int size = Math.min(n, law.length() - i);
                int[] b = new int[] {33, 33, 33, 33, 33};
                for (int k = 0; k < size; k++) {
                    b[k] = law.charAt(i + k);
                }
                x.feed(size, b[0], b[1], b[2], b[3], b[4]);
            }
            due("text() by " + n, x.text(), n);
        }
    }

    /** In a text of the test, @ stands where the fault is (and is not fed). */
    private static void fault(String marked) {
        int place = marked.indexOf('@');
        String text = marked.substring(0, place) + marked.substring(place + 1);
        due("text() of [" + marked + "]", Check.text(x, text), -100 - place);
        due("count(5)", x.count(5), 0);
    }

    private static void faults() {
        promise(6);
        String[] marked = {
            "@", "   @", " \n @", "@minds 4 ;", "  @wears", "@goesx 4 ;", "@g", "@4", "@;", "@(",
            "goes@", "goes  @", "goes @;", "goes 4@", "goes 4 @minds 3", "goes 4 @5", "goes @goes 4;", "goes @xyz ;",
            "goes @stitches ;", "goes @stitc ;", "goes @12345 ;", "goes 1234@", "goes 4 @# ;", "goes @A", "goes @wEt",
            "goes 4@\t;", "goes 4 @\r;", "goes 4@" + (char) 200 + ";", "goes 4@" + (char) 0 + ";",
            "goes 4 ;@", "goes 4 ; @wears 1", "goes 4 ; minds 2 ; @minds 1", "goes 4 ; @goes 1 ;",
            "goes 4 ; minds 3 ; wears 1@", "goes 4 ; minds 3 ; wears 1  @", "goes 4 ; minds 3 ; wears 1 ; @5",
            "goes 4 ; minds 3 ; wears 1 ; @;", "goes 4 ; minds 3 ; wears 1 ; @goes 4 ;", "goes 4 ; minds 3 ; wears 1 ; @?",
            "goes ( 4 @;", "goes ( @) ;", "goes 4 @) ;", "goes ( 4 @, ) ;", "goes ( 4@",
            "goes 1 < 2 @< 3 ;", "goes 1 = 2 @= 3;", "goes 1 < 2 @= 3;", "goes 1 + @not 2 ;", "goes 1 < @not 2 ;",
            "goes - @not 2 ;", "goes 2 * @not 2;", "goes 1 @not 1", "goes 1 or @or 1", "goes 1 and @", "goes not @",
            "goes not @;", "goes 1 * @* 2", "goes @+ 1", "goes 1 + @+ 1", "goes @* 1", "goes 1 - @;", "goes -@", "goes @< 2",
            "goes 4@x ;", "goes wet@4 ;", "goes 4 @wet;", "goes wet @wool;", "goes wet @(1);", "goes 1 or1;@", "goes 1 or1@",
            "goes 1 or @;", "goes 1 and @;", "goes 1 * @;", "goes 1 + @;", "goes 1 < @;", "goes ( 1 or @) ;", "goes (1 and @);", "goes ( 1 *@);",
            "goes not @x 1;", "goes - @x 1;", "goes (@x 1);", "goes @wetz;", "goes @weta;", "goes @zwet;", "goes @awet;",
            "goes @lore;", "goes @now;", "goes @met;", "goes wet @ond 1;", "@toes 4;", "goes 4;@finds 4;",
            "goes 4 ; minds 3 ; wears 1 ; @wet", "goes 4 ; minds 3 ; wears 1 ; @or",
            "goes (1 = 1) = (2 < 3) @= 1;", "goes 1 = (2 = (3 = @));",
        };
        for (String one : marked) {
            fault(one);
        }
        due("count(3)", x.count(3), 1);
        fault("goes 7 + 8 ; minds 9 @x");
        due("text()", Check.text(x, "goes 3;minds 4;wears 5;"), 1);
        x.force(1);
        x.sleeper(0, 0);
        for (int part = 0; part < 3; part++) {
            due("nothing of the faulty one stays", x.asks(part, 0), 3 + part);
        }
    }

    private static void nesting() {
        promise(6);
        fault("goes ((((( 1 ))))) ; minds (((((@( 1");
        fault("goes not not not not not @not 1 ;");
        fault("goes - - - - - @- 1 ;");
        fault("goes ( not ( - ( @- 1");
        fault("goes ( not ( - ( 1 - 1 * 2 < @- 1");
        fault("goes -(-(-@(1");
        fault("goes not(((( 1 = 1 or @not 1");
        fault("goes ((((1)+(1)) + (2 * ((@(3");
        fault("goes - - - - - 1 - 1 - - - - - - @- 1;");
        due("text()", Check.text(x, "goes ((((( 1 ))))) ; minds not not not not not 1;wears -----1;"), 1);
        due("text()", Check.text(x, "goes (1)+(1)+(1)+(1)+(1)+(1)+(1);minds -1--1--1--1--1--1--1;wears not 1 and not 1 and not 1 or not 1 or not 1 or not 1;"), 2);
        due("text()", Check.text(x, "goes4;minds4;wears4;"), 3);
        due("text()", Check.text(x, "\n goes\n0009 ;\nminds 9999 ; wears wet ;  "), 4);
        due("count(3)", x.count(3), 5);
    }

    /** The numbers in a text's bounds, of one whose names are all unlike. */
    private static void worths() {
        String[] sums = {
            "stitch", "column", "row", "wet", "wool", "more",
            "1 + 2 * 3", "( 1 + 2 ) * 3", "9 - 3 - 2", "9-(3-2)", "- 3 + 5", "- - 3", "2 * - 3", "1 - - 1", "-2*-3",
            "1 < 2", "2 < 1", "1<1", "1 = 1", "1=2", "1 + 1 = 2", "3 and 4", "3 and 0", "0 and 3", "0 or 5", "5 or 0", "0 or 0",
            "not 0", "not 5", "not not 7", "not 1 < 2", "not 2 < 1", "1 or 1 and 0", "(1 or 1) and 0", "not 1 or 1", "not (1 or 1)",
            "0 and 0 or 1", "7 or 9", "wet*column-row+more", "9999*9999*22", "9999 * 9999 * 43", "- 9999", "0012", "100", "-100",
            "2 < 3 or 1", "- ( 2 < 3 )", "5 - (not 0)",
        };
        int[] want = {
            3, 2, 5, 13, 21, 7,
            7, 9, 4, 8, 2, 3, -6, 2, 6,
            1, 0, 0, 1, 0, 1, 1, 0, 0, 1, 1, 0,
            1, 0, 1, 0, 1, 1, 0, 1, 0,
            1, 1, 28, -99, 99, -99, 12, 99, -99,
            1, -1, 4,
        };
        for (int i = 0; i < sums.length; i++) {
            promise(6);
            x.sleeper(7, 420);
            Check.sock(x, 0, 0, 0, 0, 0, 0);
            x.put(0, 2, 3);
            x.put(0, 3, 13);
            x.put(0, 4, 21);
            due("text() of " + sums[i], Check.text(x, "goes 0;minds " + sums[i] + ";wears 0;"), 1);
            x.force(1);
            due("asks(1, 0) of " + sums[i], x.asks(1, 0), want[i]);
        }
    }

    private static void textsFull() {
        promise(6);
        for (int t = 1; t < 6; t++) {
            due("text()", Check.text(x, "goes " + t + ";minds " + t + ";wears " + t + ";"), t);
            due("count(5)", x.count(5), 0);
        }
        due("text()", Check.text(x, "goes x"), -4);
        due("count(5)", x.count(5), 6);
        due("text()", x.text(), -4);
        due("count(3)", x.count(3), 6);
        x.sleeper(0, 0);
        for (int t = 0; t < 6; t++) {
            x.force(t);
            due("asks(0, 0)", x.asks(0, 0), t == 0 ? 4 : t);
        }
    }

    private static void force() {
        promise(7);
        Check.text(x, "goes 1;minds 1;wears 1;");
        due("force(1)", x.force(1), 0);
        due("force(2)", x.force(2), -2);
        due("force(-1)", x.force(-1), -2);
        due("force(1)", x.force(1), 1);
        due("count(4)", x.count(4), 1);
        due("force(0)", x.force(0), 1);
    }

    private static void asks() {
        promise(8);
        x.sleeper(19, 0);
        x.put(0, 3, 60);
        due("asks(0, 0)", x.asks(0, 0), 4);
        due("asks(1, 0)", x.asks(1, 0), 99);
        due("asks(2, 0)", x.asks(2, 0), 1);
        due("asks(3, 0)", x.asks(3, 0), -1000);
        due("asks(-1, 0)", x.asks(-1, 0), -1000);
        due("asks(0, 1)", x.asks(0, 1), -1000);
        due("asks(0, -1)", x.asks(0, -1), -1000);
        due("text()", Check.text(x, "goes 21;minds 100;wears 100;"), 1);
        due("text()", Check.text(x, "goes - 1;minds - 100;wears - 1;"), 2);
        x.force(1);
        due("asks(0, 0)", x.asks(0, 0), 20);
        due("asks(1, 0)", x.asks(1, 0), 99);
        due("asks(2, 0)", x.asks(2, 0), 99);
        x.force(2);
        due("asks(0, 0)", x.asks(0, 0), 0);
        due("asks(1, 0)", x.asks(1, 0), -99);
        due("asks(2, 0)", x.asks(2, 0), 0);
    }

    private static void sleeper() {
        promise(9);
        due("sleeper(60, 0)", x.sleeper(60, 0), -2);
        due("sleeper(-1, 0)", x.sleeper(-1, 0), -2);
        due("sleeper(0, 640)", x.sleeper(0, 640), -2);
        due("sleeper(0, 4)", x.sleeper(0, 4), -2);
        due("sleeper(0, 9)", x.sleeper(0, 9), -2);
        due("sleeper(0, -1)", x.sleeper(0, -1), -2);
        due("sleeper(0, 634)", x.sleeper(0, 634), -2);
        due("sleeper(59, 633)", x.sleeper(59, 633), 0);
        int[] want = {63, 3, 0, 0, 99, 5, 9, 4, 0, 2, 1};
        for (int what = 0; what <= 10; what++) {
            due("told(0, " + what + ")", x.told(0, what), want[what]);
        }
        due("told(0, 20)", x.told(0, 20), 0);
        for (int p = 1; p < 6; p++) {
            due("sleeper(0, 0)", x.sleeper(0, 0), p);
        }
        due("sleeper(0, 0)", x.sleeper(0, 0), -4);
        due("sleeper(60, 0)", x.sleeper(60, 0), -2);
        due("count(0)", x.count(0), 6);
    }

    private static void put() {
        promise(10);
        x.sleeper(0, 101);
        Check.sock(x, 0, 0, 1, 2);
        int[] was = {10, 1, 0, 0, 99};
        int[] most = {63, 3, 2, 99, 99};
        for (int what = 0; what < 5; what++) {
            due("put high", x.put(0, what, most[what] + 1), -7);
            due("put low", x.put(0, what, -1), -7);
            due("put most", x.put(0, what, most[what]), was[what]);
            due("told", x.told(0, what), most[what]);
            due("put 0", x.put(0, what, 0), most[what]);
            due("told", x.told(0, what), 0);
        }
        due("put(0, 5, 0)", x.put(0, 5, 0), -7);
        due("put(0, -1, 0)", x.put(0, -1, 0), -7);
        due("put(1, 0, 0)", x.put(1, 0, 0), -5);
        due("put(-1, 9, 0)", x.put(-1, 9, 0), -5);
    }

    private static void told() {
        promise(11);
        x.sleeper(26, 432);
        Check.sock(x, 0, 4, 3, 2, 1);
        x.put(0, 2, 2);
        x.put(0, 3, 5);
        x.put(0, 4, 25);
        int[] want = {43, 2, 2, 5, 25, 2, 6, 3, 10, 7, 4};
        for (int what = 0; what <= 10; what++) {
            due("told(0, " + what + ")", x.told(0, what), want[what]);
        }
        for (int k = 0; k < 4; k++) {
            due("told(0, 20 + k)", x.told(0, 20 + k), 4 - k);
        }
        due("told(0, 24)", x.told(0, 24), -7000);
        due("told(0, 11)", x.told(0, 11), -7000);
        due("told(0, 19)", x.told(0, 19), -7000);
        due("told(0, -1)", x.told(0, -1), -7000);
        due("told(0, MAX)", x.told(0, Integer.MAX_VALUE), -7000);
        due("told(1, -1)", x.told(1, -1), -5000);
        due("told(-1, 0)", x.told(-1, 0), -5000);
    }

    /** What one goes, minds, wears off, by kind, more, wet, wool, night, under goes 7; minds wet-3; wears 5. */
    private static void toldKinds() {
        int[][] rows = {
            // kind, more, wet, wool, night, goes, minds, wears
            {0, 3, 0, 99, 0, 7, -3, 5},
            {0, 3, 9, 1, 1, 7, 6, 5},
            {0, 3, 9, 0, 1, 0, 6, 5},
            {1, 4, 9, 99, 1, 4, 16, 5},
            {1, 0, 0, 99, 1, 0, 7, 5},
            {1, 9, 0, 99, 1, 4, 7, 5},
            {1, 9, 0, 0, 1, 0, 7, 5},
            {2, 4, 9, 99, 1, 7, 6, 9},
            {2, 4, 9, 59, 1, 6, 6, 9},
            {2, 4, 9, 10, 1, 2, 6, 9},
            {2, 4, 9, 9, 1, 1, 6, 9},
            {2, 4, 9, 0, 1, 0, 6, 9},
            {3, 4, 9, 99, 0, 5, 16, 5},
            {3, 4, 9, 99, 1, 5, 16, 0},
            {3, 4, 9, 99, 2, 5, 16, 0},
            {3, 4, 9, 99, 3, 5, 16, 5},
            {3, 4, 9, 99, 999, 5, 16, 5},
            {3, 4, 9, 0, 0, 1, 16, 5},
            {4, 4, 5, 99, 0, 7, 2, 0},
            {4, 4, 4, 29, 0, 3, 0, 0},
            {4, 4, 9, 0, 0, 0, 6, 0},
            {5, 4, 9, 99, 0, 4, 6, 10},
            {5, 9, 9, 99, 0, 7, 6, 10},
            {5, 4, 9, 0, 0, 4, 6, 10},
            {5, 0, 9, 0, 0, 0, 6, 10},
        };
        for (int[] row : rows) {
            promise(11);
            Check.text(x, "goes 7;minds wet-3;wears 5;");
            x.force(1);
            x.sleeper(10 * row[0] + row[1], 0);
            x.put(0, 3, row[2]);
            x.put(0, 4, row[3]);
            x.dusk(row[4]);
            String of = "kind " + row[0] + " more " + row[1] + " wet " + row[2] + " wool " + row[3] + " night " + row[4];
            due("told(0, 7) " + of, x.told(0, 7), row[5]);
            due("told(0, 8) " + of, x.told(0, 8), row[6]);
            due("told(0, 9) " + of, x.told(0, 9), row[7]);
        }
    }

    private static void knit() {
        promise(12);
        x.sleeper(0, 0);
        x.sleeper(0, 0);
        due("knit(4, 0)", x.knit(4, 0), -2);
        due("knit(-1, 9)", x.knit(-1, 9), -2);
        due("knit(0, 9)", x.knit(0, 9), -11);
        Check.row(x, 0, 0);
        due("knit none", x.knit(0, 9), -2);
        Check.row(x, 0, 0, new int[17]);
        due("knit 17", x.knit(0, 0), -2);
        Check.row(x, 0, 2, 0, 5);
        due("knit 5", x.knit(0, 9), -2);
        Check.row(x, 0, 2, 0, -1);
        due("knit -1", x.knit(0, 0), -2);
        Check.row(x, 0, 2, 5, 0);
        due("knit 5 first", x.knit(0, 0), -2);
        Check.row(x, 0, 2, 4);
        due("knit one", x.knit(0, 1), 1);
        due("told(1, 20)", x.told(1, 20), 4);
        due("told(0, 10)", x.told(0, 10), 1);
        Check.row(x, 0, 1, new int[16]);
        x.cell(0, 15, 4);
        due("knit 16", x.knit(0, 0), 16);
        due("told(0, 35)", x.told(0, 35), 4);
        due("knit to nobody", x.knit(0, 2), -5);
        x.put(0, 2, 15);
        Check.row(x, 0, 0, 1, 2, 3);
        due("knit 3", x.knit(0, 0), 3);
        due("told(0, 2)", x.told(0, 2), 0);
        due("told(0, 10)", x.told(0, 10), 3);
        due("told(0, 22)", x.told(0, 22), 3);
        due("told(0, 23)", x.told(0, 23), -7000);
        x.knit(0, 1);
        x.cell(0, 0, 4);
        x.darn(1, 1, 4);
        due("the sheet's own", x.told(0, 20), 1);
        due("the other's own", x.told(0, 21), 2);
        due("told(1, 21)", x.told(1, 21), 4);
    }

    private static void darn() {
        promise(13);
        x.sleeper(0, 0);
        Check.sock(x, 0, 0, 1, 2);
        x.put(0, 2, 2);
        due("darn(0, 1, 4)", x.darn(0, 1, 4), 1);
        due("darn(0, 1, 4)", x.darn(0, 1, 4), 4);
        due("darn(0, 3, 0)", x.darn(0, 3, 0), -7);
        due("darn(0, -1, 0)", x.darn(0, -1, 0), -7);
        due("darn(0, 0, 5)", x.darn(0, 0, 5), -7);
        due("darn(0, 0, -1)", x.darn(0, 0, -1), -7);
        due("darn(1, 9, 9)", x.darn(1, 9, 9), -5);
        due("darn(-1, 0, 0)", x.darn(-1, 0, 0), -5);
        due("told(0, 20)", x.told(0, 20), 0);
        due("told(0, 21)", x.told(0, 21), 4);
        due("told(0, 22)", x.told(0, 22), 2);
        due("told(0, 2)", x.told(0, 2), 2);
    }

    private static void state(String place, int p, int cell, int way, int next, int wet, int wool) {
        due(place + " cell", x.told(p, 0), cell);
        due(place + " way", x.told(p, 1), way);
        due(place + " next", x.told(p, 2), next);
        due(place + " wet", x.told(p, 3), wet);
        due(place + " wool", x.told(p, 4), wool);
    }

    private static void nightOfOne() {
        promise(14);
        x.flood(9, 1);
        x.flood(10, 1);
        x.sleeper(3, 0);
        Check.sock(x, 0, 0, 2, 0, 1, 4, 0, 3);
        due("night()", x.night(), 1);
        state("behind 1", 0, 1, 1, 2, 1, 98);
        due("night()", x.night(), 0);
        state("behind 2", 0, 1, 1, 3, 2, 97);
        due("night()", x.night(), 3);
        state("behind 3", 0, 4, 0, 0, 2, 96);
        due("night()", x.night(), 4);
        state("behind 4", 0, 22, 0, 4, 2, 95);
        due("night()", x.night(), 1);
        state("behind 5", 0, 23, 0, 6, 2, 94);
        due("night()", x.night(), 0);
        state("behind 6", 0, 23, 0, 0, 2, 93);
        due("count(2)", x.count(2), 6);
    }

    private static void nightTurnsAndEdges() {
        int[][] rows = {
            // cell, way, stitch; then cell, way, miles behind a night of one stitch
            {27, 0, 0, 28, 0, 1}, {27, 1, 0, 35, 1, 1}, {27, 2, 0, 26, 2, 1}, {27, 3, 0, 19, 3, 1},
            {27, 0, 1, 19, 3, 1}, {27, 1, 1, 28, 0, 1}, {27, 2, 1, 35, 1, 1}, {27, 3, 1, 26, 2, 1},
            {27, 0, 2, 35, 1, 1}, {27, 1, 2, 26, 2, 1}, {27, 2, 2, 19, 3, 1}, {27, 3, 2, 28, 0, 1},
            {27, 0, 3, 27, 0, 0}, {27, 0, 4, 28, 0, 1},
            {7, 0, 0, 7, 0, 0}, {8, 2, 0, 8, 2, 0}, {0, 3, 0, 0, 3, 0}, {56, 1, 0, 56, 1, 0},
            {54, 0, 0, 55, 0, 1}, {54, 1, 0, 62, 1, 1}, {9, 2, 0, 8, 2, 1}, {9, 3, 0, 1, 3, 1},
            {63, 0, 2, 63, 1, 0}, {63, 1, 1, 63, 0, 0}, {0, 2, 2, 0, 3, 0}, {0, 3, 1, 0, 2, 0}, {7, 0, 4, 7, 0, 0},
        };
        for (int[] row : rows) {
            promise(14);
            Check.text(x, "goes 1;minds 0;wears 0;");
            x.force(1);
            x.sleeper(0, 10 * row[0] + row[1]);
            x.darn(0, 0, row[2]);
            due("night()", x.night(), row[5]);
            state("cell " + row[0] + " way " + row[1] + " stitch " + row[2], 0, row[3], row[4], 0, 0, 99);
        }
        promise(14);
        x.sleeper(0, 50);
        Check.sock(x, 0, 0, 0, 0, 2);
        due("stays at the end", x.night(), 2);
        state("at the end", 0, 7, 0, 3, 0, 98);
        due("goes on", x.night(), 4);
        state("going on", 0, 39, 1, 3, 0, 97);
    }

    private static void nightWetAndWool() {
        promise(14);
        x.flood(1, 1);
        x.flood(2, 1);
        x.sleeper(0, 0);
        Check.sock(x, 0, 4, 0);
        x.put(0, 3, 98);
        due("over a bridge, then wet", x.night(), 1);
        state("bridge", 0, 1, 0, 0, 99, 98);
        x.darn(0, 0, 0);
        due("wet at most", x.night(), 0);
        state("wet at most", 0, 1, 0, 1, 99, 97);
        promise(14);
        Check.text(x, "goes wool;minds 0;wears 60 + wet;");
        x.force(1);
        x.sleeper(0, 0);
        x.sleeper(40, 80);
        x.put(0, 4, 3);
        due("what one goes is told ahead", x.night(), 3 + 7);
        state("wool 0 at least", 0, 3, 0, 0, 0, 0);
        state("the dead don't wear", 1, 15, 0, 0, 0, 99);
        due("no wool", x.night(), 0);
        promise(14);
        Check.text(x, "goes 2;minds 0;wears wet;");
        x.force(1);
        x.flood(1, 1);
        x.sleeper(0, 0);
        x.night();
        state("wears is told ahead", 0, 0, 0, 0, 1, 99);
        x.night();
        state("wears is told ahead", 0, 0, 0, 0, 2, 98);
    }

    private static void nightEnds() {
        promise(14);
        due("night()", x.night(), 0);
        due("count(2)", x.count(2), 1);
        x.sleeper(34, 0);
        x.sleeper(0, 560);
        due("two together", x.night(), 4 + 4);
        due("a girl's wool at night 1", x.told(0, 4), 99);
        x.dusk(3);
        x.night();
        due("a girl's wool at night 3", x.told(0, 4), 98);
        x.dusk(998);
        due("night()", x.night(), 0);
        due("count(2)", x.count(2), 999);
        due("night()", x.night(), -3);
        due("count(2)", x.count(2), 999);
        due("in thought it may pass", x.run(5, 10), 7);
    }

    private static void run() {
        promise(15);
        x.sleeper(12, 0);
        x.sleeper(0, 20);
        x.sleeper(0, 30);
        x.flood(5, 1);
        // 0: 8 % 3 = 2 a night; 1 and 2 come to cell 4, then are wet each night.
        int[] milesWant = {0, 2 + 2 + 1, 4 + 3, 4 + 3};
        for (int n = 0; n < 4; n++) {
            due("run(n, 0)", x.run(n, 0), milesWant[n]);
        }
        due("run(0, 2)", x.run(0, 2), 0);
        due("run(1, 2)", x.run(1, 2), 1);
        due("run(2, 2)", x.run(2, 2), 3);
        due("run(3, 2)", x.run(3, 2), 3);
        due("run(0, 1)", x.run(0, 1), 10);
        due("run(1, 1)", x.run(1, 1), 10 + 2 + 2);
        due("run(3, 1)", x.run(3, 1), 10 + 2 + 6 + 6);
        due("run(1, 10)", x.run(1, 10), 2);
        due("run(1, 11)", x.run(1, 11), 4);
        due("run(3, 20)", x.run(3, 20), 1);
        due("run(3, 22)", x.run(3, 22), 3);
        due("run(40, 22)", x.run(40, 22), 40);
        due("run(41, 0)", x.run(41, 0), -100000);
        due("run(-1, 0)", x.run(-1, 0), -100000);
        due("run(1, 3)", x.run(1, 3), -100000);
        due("run(1, -1)", x.run(1, -1), -100000);
        due("run(1, 9)", x.run(1, 9), -100000);
        due("run(1, 13)", x.run(1, 13), -100000);
        due("run(1, 19)", x.run(1, 19), -100000);
        due("run(1, 23)", x.run(1, 23), -100000);
        due("run(1, MIN)", x.run(1, Integer.MIN_VALUE), -100000);
        due("nothing changed", x.told(0, 0), 0);
        due("nothing changed", x.count(2), 0);
    }

    private static void track() {
        promise(16);
        due("track(5, -1)", x.track(5, -1), 0);
        x.sleeper(0, 0);
        x.sleeper(0, 633);
        x.flood(6, 1);
        due("track(0, 0)", x.track(0, 0), 1);
        due("track(1, 0)", x.track(1, 0), 31);
        due("track(2, 0)", x.track(2, 0), 63);
        due("track(40, 0)", x.track(40, 0), 63);
        due("track(1, 1)", x.track(1, 1), 1L << 63 | 1L << 55 | 1L << 47 | 1L << 39 | 1L << 31);
        due("track(0, -1)", x.track(0, -1), 1L << 63 | 1);
        due("track(1, -1)", x.track(1, -1), 1L << 63 | 1L << 55 | 1L << 47 | 1L << 39 | 1L << 31 | 31);
        due("track(99, -2)", x.track(99, -2), 64);
        due("track(-1, -2)", x.track(-1, -2), 64);
        due("track(41, -1)", x.track(41, -1), BedsocksKeepRoads.NO);
        due("track(-1, 0)", x.track(-1, 0), BedsocksKeepRoads.NO);
        due("track(1, 2)", x.track(1, 2), BedsocksKeepRoads.NO);
        due("track(1, -3)", x.track(1, -3), BedsocksKeepRoads.NO);
    }

    private static void comes() {
        promise(17);
        Check.text(x, "goes 2;minds 0;wears 0;");
        x.force(1);
        x.sleeper(0, 0);
        Check.sock(x, 0, 0, 3, 3);
        due("comes(0, 0)", x.comes(0, 0), 0);
        due("comes(0, 1)", x.comes(0, 1), 1);
        due("a bog ends the night", x.comes(0, 2), 3);
        due("comes(0, 7)", x.comes(0, 7), 13);
        due("comes(0, 8)", x.comes(0, 8), -1);
        due("comes(0, 64)", x.comes(0, 64), -7);
        due("comes(0, -1)", x.comes(0, -1), -7);
        due("comes(1, 64)", x.comes(1, 64), -5);
        due("comes(-1, 0)", x.comes(-1, 0), -5);
        Check.sock(x, 0, 0, 0);
        due("on the way is not behind", x.comes(0, 1), -1);
        Check.text(x, "goes 1;minds 0;wears 0;");
        x.force(2);
        Check.sock(x, 0, 0, 3, 3, 3, 3, 3, 3, 3, 3, 3, 3, 3, 3, 3, 3, 3);
        x.put(0, 2, 1);
        due("comes(0, 3)", x.comes(0, 3), 48);
        due("comes(0, 4)", x.comes(0, 4), -1);
        Check.sock(x, 0, 0, 3, 3, 3, 3, 3, 3, 3, 3, 3, 3, 3, 3, 3, 3);
        due("behind 60", x.comes(0, 4), 46);
        due("not by then", x.comes(0, 5), -1);
        Check.sock(x, 0, 0, 3, 3, 3, 3, 3, 3, 3, 3, 3, 3, 3, 3);
        x.put(0, 2, 6);
        due("behind 60 itself", x.comes(0, 5), 8 + 13 * 4);
        x.put(0, 2, 5);
        due("behind 61", x.comes(0, 5), -1);
    }

    private static void meet() {
        promise(18);
        Check.text(x, "goes 1;minds 0;wears 0;");
        x.force(1);
        x.sleeper(0, 0);
        x.sleeper(0, 72);
        x.sleeper(0, 60);
        x.sleeper(0, 0);
        x.sleeper(0, 160);
        due("meet(0, 2)", x.meet(0, 2), 7);
        due("meet(2, 0)", x.meet(2, 0), 7);
        due("meet(0, 3)", x.meet(0, 3), 0);
        due("meet(0, 4)", x.meet(0, 4), -1);
        due("meet(0, 1)", x.meet(0, 1), -1);
        x.put(1, 0, 6);
        due("each towards the other", x.meet(0, 1), 3);
        x.put(1, 0, 7);
        due("past each other", x.meet(0, 1), -1);
        due("meet(0, 0)", x.meet(0, 0), -5);
        due("meet(0, 5)", x.meet(0, 5), -5);
        due("meet(-1, 0)", x.meet(-1, 0), -5);
        Check.sock(x, 0, 0, 3, 3, 3, 3, 3, 3, 3, 3, 3, 3, 3, 3);
        x.darn(1, 0, 3);
        x.put(1, 0, 5);
        x.put(0, 2, 6);
        due("behind 60 itself", x.meet(0, 1), 60);
        x.put(0, 2, 5);
        due("behind 61", x.meet(1, 0), -1);
    }

    private static void alike() {
        promise(19);
        x.sleeper(0, 0);
        x.sleeper(0, 0);
        Check.sock(x, 0, 0, 1, 2, 3);
        Check.sock(x, 1, 2, 3, 0, 1);
        due("alike(0, 1, 0)", x.alike(0, 1, 0), 0);
        due("alike(0, 1, 1)", x.alike(0, 1, 1), 2);
        due("alike(1, 0, 1)", x.alike(1, 0, 1), 2);
        x.put(0, 2, 2);
        due("from next on, round", x.alike(0, 1, 0), 240);
        due("turned alike", x.alike(0, 1, 1), 2);
        due("one and the same", x.alike(0, 0, 0), 240);
        due("one and the same", x.alike(0, 0, 1), 0);
        Check.sock(x, 0, 1, 0, 0);
        Check.sock(x, 1, 0, 0, 1);
        due("stitch k is stitch k and that", x.alike(0, 1, 1), 2);
        due("the other way", x.alike(1, 0, 1), 1);
        Check.sock(x, 0, 0, 1);
        Check.sock(x, 1, 0, 1, 0, 1, 0, 1, 0, 2);
        due("alike on end", x.alike(0, 1, 0), 7);
        due("alike on end", x.alike(1, 0, 0), 7);
        due("unlike sizes", x.alike(0, 1, 1), -1);
        Check.sock(x, 1, 0, 1, 0, 1);
        due("unlike sizes, alike for ever", x.alike(0, 1, 0), 240);
        due("unlike sizes", x.alike(0, 1, 1), -1);
        Check.sock(x, 1, 0, 2);
        due("not at all", x.alike(0, 1, 1), -1);
        Check.sock(x, 1, 2, 1);
        due("not the first stitch", x.alike(0, 1, 1), -1);
        due("alike(0, 1, 2)", x.alike(0, 1, 2), -7);
        due("alike(0, 1, -1)", x.alike(0, 1, -1), -7);
        due("alike(0, 2, 2)", x.alike(0, 2, 2), -5);
        due("alike(-1, 0, 0)", x.alike(-1, 0, 0), -5);
    }

    private static void anew() {
        promise(20);
        Check.text(x, "goes 3;minds 0;wears 0;");
        x.force(1);
        x.sleeper(0, 0);
        Check.sock(x, 0, 0, 0, 0);
        // to 17 (column 1, row 2): 0 2 0 leads to 1, 9, 17; as is to 3, 4 away
        due("anew(0, 17, 1, 0)", x.anew(0, 17, 1, 0), 12);
        due("anew(0, 17, 1, 1)", x.anew(0, 17, 1, 1), 0);
        // to 3, as is; nothing is nearer
        due("none nearer", x.anew(0, 3, 1, 0), -1);
        due("as so", x.anew(0, 3, 1, 1), 0);
        due("behind no nights", x.anew(0, 63, 0, 0), -1);
        due("behind no nights", x.anew(0, 63, 0, 1), 14);
        // to 24: 2 0 0 first
        due("anew(0, 24, 1, 0)", x.anew(0, 24, 1, 0), 2);
        // to 0: 1 at the first stitch stays at 0; 2 there is 3 away; 3 stays too, later
        due("of like ones the first", x.anew(0, 0, 1, 0), 1);
        due("of like ones the first", x.anew(0, 0, 1, 1), 0);
        x.flood(1, 1);
        due("water", x.anew(0, 3, 1, 0), 4);
        due("water", x.anew(0, 3, 1, 1), 0);
        due("nothing changed", x.told(0, 20), 0);
        x.flood(1, 0);
        Check.sock(x, 0, 3);
        due("on is the better one", x.anew(0, 7, 1, 0), 0);
        due("on is the better one", x.anew(0, 7, 1, 1), 4);
        due("twenty nights", x.anew(0, 7, 20, 0), 0);
        due("twenty nights", x.anew(0, 7, 20, 1), 0);
        due("anew(0, 64, 1, 0)", x.anew(0, 64, 1, 0), -7);
        due("anew(0, -1, 1, 0)", x.anew(0, -1, 1, 0), -7);
        due("anew(0, 0, 21, 0)", x.anew(0, 0, 21, 0), -7);
        due("anew(0, 0, -1, 0)", x.anew(0, 0, -1, 0), -7);
        due("anew(0, 0, 20, 2)", x.anew(0, 0, 20, 2), -7);
        due("anew(0, 0, 20, -1)", x.anew(0, 0, 20, -1), -7);
        due("anew(1, 64, 1, 0)", x.anew(1, 64, 1, 0), -5);
        due("anew(-1, 0, 1, 0)", x.anew(-1, 0, 1, 0), -5);
    }

    private static void drain() {
        promise(21);
        x.sleeper(0, 0);
        x.sleeper(0, 80);
        x.sleeper(0, 160);
        x.flood(4, 1);
        x.flood(9, 1);
        x.flood(17, 1);
        due("drain(1, 0)", x.drain(1, 0), 9);
        due("drain(1, 1)", x.drain(1, 1), 3 + 4);
        due("drain(20, 0)", x.drain(20, 0), 9);
        due("drain(20, 1)", x.drain(20, 1), 3 + 7);
        due("drain(0, 0)", x.drain(0, 0), -1);
        due("drain(0, 1)", x.drain(0, 1), 0);
        x.flood(10, 1);
        x.flood(18, 1);
        due("of like ones the first", x.drain(1, 0), 4);
        due("how many", x.drain(1, 1), 4);
        x.put(0, 0, 56);
        x.put(1, 0, 32);
        x.put(2, 0, 40);
        due("none is more", x.drain(3, 0), -1);
        due("as so", x.drain(3, 1), 21);
        x.put(0, 0, 1);
        x.put(0, 1, 2);
        x.flood(0, 1);
        due("cell 0", x.drain(1, 0), 0);
        x.flood(0, 0);
        x.put(0, 0, 55);
        x.put(0, 1, 1);
        x.flood(63, 1);
        due("cell 63", x.drain(1, 0), 63);
        x.flood(63, 0);
        due("drain(21, 0)", x.drain(21, 0), -2);
        due("drain(-1, 0)", x.drain(-1, 0), -2);
        due("drain(0, 2)", x.drain(0, 2), -2);
        due("drain(0, -1)", x.drain(0, -1), -2);
        due("nothing changed", x.count(1), 5);
    }

    private static void turn() {
        promise(22);
        x.sleeper(0, 273);
        x.flood(28, 1);
        x.flood(35, 1);
        x.flood(26, 1);
        x.put(0, 3, 7);
        due("turn(0, 2, 0)", x.turn(0, 2, 0), 3);
        due("turn(0, 2, 1)", x.turn(0, 2, 1), 7);
        x.flood(11, 1);
        due("wet each night", x.turn(0, 2, 0), 0);
        due("wet each night", x.turn(0, 2, 1), 9);
        Check.text(x, "goes 1;minds 0;wears 0;");
        x.force(1);
        due("later wet is less", x.turn(0, 2, 0), 3);
        due("later wet is less", x.turn(0, 2, 1), 8);
        x.flood(19, 1);
        due("of like ones the first", x.turn(0, 2, 0), 0);
        due("of like ones the first", x.turn(0, 2, 1), 9);
        due("turn(0, 0, 0)", x.turn(0, 0, 0), 0);
        due("turn(0, 0, 1)", x.turn(0, 0, 1), 7);
        due("turn(0, 40, 1)", x.turn(0, 40, 1), 47);
        due("nothing changed", x.told(0, 1), 3);
        due("turn(0, 41, 0)", x.turn(0, 41, 0), -7);
        due("turn(0, -1, 0)", x.turn(0, -1, 0), -7);
        due("turn(0, 0, 2)", x.turn(0, 0, 2), -7);
        due("turn(0, 0, -1)", x.turn(0, 0, -1), -7);
        due("turn(1, 41, 0)", x.turn(1, 41, 0), -5);
        due("turn(-1, 0, 0)", x.turn(-1, 0, 0), -5);
    }

    private static void share() {
        promise(23);
        due("share(40, 0)", x.share(40, 0), 0);
        due("share(40, 1)", x.share(40, 1), 1);
        x.sleeper(0, 0);
        due("share(0, 0)", x.share(0, 0), 1);
        due("share(0, 1)", x.share(0, 1), 64);
        due("share(1, 0)", x.share(1, 0), 5);
        due("share(1, 1)", x.share(1, 1), 64);
        due("share(2, 0)", x.share(2, 0), 1);
        due("share(2, 1)", x.share(2, 1), 8);
        x.sleeper(0, 82);
        x.sleeper(0, 560);
        due("share(2, 0)", x.share(2, 0), 17);
        due("share(2, 1)", x.share(2, 1), 64);
        due("share(41, 0)", x.share(41, 0), BedsocksKeepRoads.NO);
        due("share(-1, 0)", x.share(-1, 0), BedsocksKeepRoads.NO);
        due("share(1, 2)", x.share(1, 2), BedsocksKeepRoads.NO);
        due("share(1, -1)", x.share(1, -1), BedsocksKeepRoads.NO);
        promise(23);
        Check.text(x, "goes 20;minds 0;wears 0;");
        x.force(1);
        x.sleeper(0, 0);
        Check.sock(x, 0, 0, 0, 0, 0, 0, 0, 0, 2, 2, 0, 0, 0, 0, 0, 0, 3);
        due("two rows", x.share(1, 0), 1);
        due("two rows", x.share(1, 1), 4);
        for (int p = 1; p < 6; p++) {
            x.sleeper(0, 10 * p);
        }
        due("six cells", x.share(0, 1), 32);
        due("six cells", x.share(0, 0), 3);
    }

    /** Nights for the told ones: sleeper 0 goes 4 cells on a row, 1 is a baby of 3. */
    private static void toldLand() {
        Check.text(x, "goes 2;minds 0;wears 0;");
        x.force(1);
        x.sleeper(3, 0);
        x.sleeper(12, 0);
        x.sleeper(53, 70);
    }

    private static void refusalsOfTold(String call, long bad, long nothing, long tooMany, long nobody) {
        due(call + " sheet 4", bad, -2);
        due(call + " missing", nothing, -11);
        due(call + " 21 numbers", tooMany, -2);
        due(call + " nobody", nobody, -5);
    }

    private static void judge() {
        promise(24);
        toldLand();
        Check.row(x, 0, 0, 2, 4, 6, 7);
        due("judge(0, 0)", x.judge(0, 0), -1);
        due("judge(0, 1)", x.judge(0, 1), 0);
        x.cell(0, 3, 6);
        due("judge(0, 0)", x.judge(0, 0), 3);
        x.cell(0, 1, 5);
        due("judge(0, 0)", x.judge(0, 0), 1);
        Check.row(x, 1, 2);
        due("judge of none", x.judge(1, 0), -1);
        x.sheet(1, 0, 21);
        refusalsOfTold("judge", x.judge(4, 0), x.judge(2, 9), x.judge(1, 9), x.judge(0, 3));
        due("judge(-1, 9)", x.judge(-1, 9), -2);
        due("judge(0, -1)", x.judge(0, -1), -5);
        Check.row(x, 1, 1, 2, 4, 6, 7, 7, 7, 7, 7, 7, 7, 7, 7, 7, 7, 7, 7, 7, 7, 7, 7);
        due("20 told", x.judge(1, 0), -1);
        due("nothing changed", x.told(0, 0), 0);
        Check.row(x, 1, 2, 258);
        due("an int is an int", x.judge(1, 0), 0);
    }

    private static void kinds() {
        promise(25);
        toldLand();
        Check.row(x, 0, 0, 2, 4, 6);
        // of more 3: sleeper 2, baby 4 % 4 = 0, old 2, girl 1, dead 2, priest 2
        due("kinds(0, 0, 0)", x.kinds(0, 0, 0), 1 | 4 | 16 | 32);
        due("kinds(0, 0, 1)", x.kinds(0, 0, 1), 1023);
        Check.row(x, 0, 0, 1, 2, 3);
        due("kinds(0, 0, 0)", x.kinds(0, 0, 0), 8);
        due("kinds(0, 0, 1)", x.kinds(0, 0, 1), 0);
        // a baby goes 4 % (more and 1): 0 0 1 0 4 4 ..
        due("kinds(0, 1, 1)", x.kinds(0, 1, 1), 4);
        due("kinds(0, 1, 0)", x.kinds(0, 1, 0), 2);
        due("kinds(0, 0, 2)", x.kinds(0, 0, 2), -7);
        due("kinds(0, 0, -1)", x.kinds(0, 0, -1), -7);
        due("kinds(0, 3, 2)", x.kinds(0, 3, 2), -5);
        x.sheet(1, 0, 21);
        refusalsOfTold("kinds", x.kinds(4, 0, 2), x.kinds(2, 9, 2), x.kinds(1, 9, 2), x.kinds(0, -1, 2));
        Check.row(x, 1, 0);
        due("none told", x.kinds(1, 0, 0), 63);
        due("none told", x.kinds(1, 0, 1), 1023);
    }

    private static void begins() {
        promise(26);
        toldLand();
        x.flood(20, 1);
        Check.row(x, 0, 0, 15);
        due("begins(0, 0)", x.begins(0, 0), 1L << 13 | 1L << 14 | 1L << 15);
        Check.row(x, 0, 0, 19, 19);
        due("before water", x.begins(0, 0), 1L << 17 | 1L << 18 | 1L << 19);
        Check.row(x, 0, 0, 22);
        due("in water", x.begins(0, 0), 1L << 20);
        Check.row(x, 0, 0);
        due("none told", x.begins(0, 0), -1L);
        long no = BedsocksKeepRoads.NO;
        x.sheet(1, 0, 21);
        due("begins(4, 0)", x.begins(4, 0), no);
        due("begins(2, 0)", x.begins(2, 0), no);
        due("begins(1, 0)", x.begins(1, 0), no);
        due("begins(0, 3)", x.begins(0, 3), no);
        due("begins(0, -1)", x.begins(0, -1), no);
    }

    private static void ways() {
        promise(27);
        toldLand();
        x.put(0, 0, 27);
        Check.row(x, 0, 0, 43);
        due("ways(0, 0, 1)", x.ways(0, 0, 1), 2);
        due("ways(0, 0, 2)", x.ways(0, 0, 2), 0);
        x.put(0, 0, 0);
        Check.row(x, 0, 0, 0, 0);
        due("to no cell", x.ways(0, 0, 1), 4 | 8);
        Check.sock(x, 0, 0, 0, 3, 2);
        Check.row(x, 0, 0, 1);
        due("stitches", x.ways(0, 0, 2), 2);
        Check.row(x, 0, 0, 0);
        due("stitches", x.ways(0, 0, 2), 4);
        Check.row(x, 0, 0);
        due("none told", x.ways(0, 0, 2), 15);
        due("none told", x.ways(0, 0, 1), 15);
        due("ways(0, 0, 0)", x.ways(0, 0, 0), -7);
        due("ways(0, 0, 3)", x.ways(0, 0, 3), -7);
        due("ways(0, 3, 3)", x.ways(0, 3, 3), -5);
        x.sheet(1, 0, 21);
        refusalsOfTold("ways", x.ways(4, 0, 0), x.ways(2, 9, 0), x.ways(1, 9, 0), x.ways(0, -1, 0));
        due("nothing changed", x.told(0, 1), 0);
        due("nothing changed", x.told(0, 2), 0);
    }

    private static void whose() {
        promise(28);
        Check.row(x, 0, 0, 2);
        due("nobody", x.whose(0), 0);
        toldLand();
        x.sleeper(0, 10);
        due("whose(0)", x.whose(0), 1);
        x.put(2, 0, 0);
        due("whose(0)", x.whose(0), 1 | 4);
        Check.row(x, 0, 0);
        due("none told", x.whose(0), 15);
        x.sheet(1, 0, 21);
        due("whose(4)", x.whose(4), -2);
        due("whose(-1)", x.whose(-1), -2);
        due("whose(2)", x.whose(2), -11);
        due("whose(1)", x.whose(1), -2);
        x.sheet(1, 0, 20);
        due("whose(1)", x.whose(1), 0);
    }

    private static void laws() {
        promise(29);
        toldLand();
        Check.text(x, "goes 4-column;minds 0;wears 0;");
        Check.row(x, 0, 0, 4);
        due("laws(0, 0)", x.laws(0, 0), 1 | 4);
        Check.row(x, 0, 0, 4, 4);
        due("laws(0, 0)", x.laws(0, 0), 4);
        Check.row(x, 0, 0, 2, 4);
        due("laws(0, 0)", x.laws(0, 0), 2);
        Check.row(x, 0, 0);
        due("none told", x.laws(0, 0), 7);
        due("nothing changed", x.count(4), 1);
        x.sheet(1, 0, 21);
        refusalsOfTold("laws", x.laws(4, 0), x.laws(2, 9), x.laws(1, 9), x.laws(0, 3));
        due("laws(0, -1)", x.laws(0, -1), -5);
    }

    private static void film() {
        promise(30);
        toldLand();
        due("film(4, 9, 99)", x.film(4, 9, 99), -2);
        due("film(-1, 0, 0)", x.film(-1, 0, 0), -2);
        due("film(0, 3, 99)", x.film(0, 3, 99), -5);
        due("film(0, -1, 0)", x.film(0, -1, 0), -5);
        due("film(0, 0, 21)", x.film(0, 0, 21), -7);
        due("film(0, 0, -1)", x.film(0, 0, -1), -7);
        due("still missing", x.cell(0, 0, 0), -11);
        Check.row(x, 0, 2, 300, 300, 300);
        due("film(0, 0, 2)", x.film(0, 0, 2), 2);
        due("judge(0, 0)", x.judge(0, 0), -1);
        due("a row of two", x.cell(0, 2, 0), -12);
        Check.row(x, 1, 0, 2, 4);
        due("of bytes", x.copy(0, 0, 1, 0, 2), 2);
        x.cell(0, 1, 260);
        due("of bytes", x.judge(0, 0), -1);
        due("film(0, 0, 20)", x.film(0, 0, 20), 20);
        due("judge(0, 0)", x.judge(0, 0), -1);
        due("film(0, 0, 0)", x.film(0, 0, 0), 0);
        due("none in it", x.cell(0, 0, 0), -12);
        due("nothing else changed", x.told(0, 0), 0);
    }

    /** The lots, by the document's words, here in the test's own reckoning. */
    private static int lotCell(int seed, int number) {
        java.math.BigInteger lot = java.math.BigInteger.valueOf(seed + 1);
        java.math.BigInteger times = java.math.BigInteger.valueOf(48271);
        for (int i = 0; i <= number; i++) {
            lot = lot.multiply(times).mod(java.math.BigInteger.valueOf(2147483647));
        }
        return lot.mod(java.math.BigInteger.valueOf(64)).intValue();
    }

    private static int milesOfFloods(int seed, int what) {
        BedsocksKeepRoads y = new BedsocksKeepRoads();
        placeForFloods(y);
        int miles = 0;
        for (int k = 0; k < 8; k++) {
            int c = lotCell(seed, k);
            y.flood(c, (y.track(0, -2) >>> c & 1) == 0 ? 1 : 0);
            miles += y.night();
        }
        return what == 0 ? miles : y.run(0, 2);
    }

    private static void placeForFloods(BedsocksKeepRoads y) {
        for (int p = 0; p < 6; p++) {
            y.sleeper(10 * p + 9 - p, 10 * (11 * p % 64) + p % 4);
            Check.sock(y, p, 2, 0, 1, 0, 2, 2, 1);
            y.put(p, 2, p);
        }
        for (int c = 3; c < 64; c += 7) {
            y.flood(c, 1);
        }
    }

    private static void drawn() {
        promise(31);
        due("no sleepers", x.drawn(0, 0), 0);
        placeForFloods(x);
        long water = x.track(0, -2);
        for (int seed = 0; seed < 60; seed++) {
            due("drawn(" + seed + ", 0)", x.drawn(seed, 0), milesOfFloods(seed, 0));
            due("drawn(" + seed + ", 1)", x.drawn(seed, 1), milesOfFloods(seed, 1));
        }
        due("drawn(99999, 0)", x.drawn(99999, 0), milesOfFloods(99999, 0));
        due("drawn(100000, 0)", x.drawn(100000, 0), -2);
        due("drawn(-1, 0)", x.drawn(-1, 0), -2);
        due("drawn(0, 2)", x.drawn(0, 2), -2);
        due("drawn(0, -1)", x.drawn(0, -1), -2);
        due("nothing changed", x.track(0, -2), water);
        due("nothing changed", x.count(2), 0);
        // In thought the water of one seed is no other one's: lot 48271 % 64 = 15 comes first of seed 0.
        due("the first lot of 0", lotCell(0, 0), 15);
        promise(31);
        x.sleeper(0, 140);
        due("flooded ahead of the first night", x.drawn(0, 0), 0);
        x.flood(15, 1);
        due("dry ahead of the first night", x.drawn(0, 0), 1);
    }

    private static void odds() {
        promise(32);
        placeForFloods(x);
        int[] miles = new int[41];
        for (int k = 0; k < 40; k++) {
            miles[k] = milesOfFloods(99990 + k, 0);
        }
        for (int seeds = 1; seeds <= 40; seeds += 3) {
            for (int least = miles[3] - 1; least <= miles[3] + 1; least++) {
                int above = 0;
                for (int k = 0; k < seeds; k++) {
                    above += miles[k] >= least ? 1 : 0;
                }
                int common = java.math.BigInteger.valueOf(above).gcd(java.math.BigInteger.valueOf(seeds)).intValue();
                due("odds above", x.odds(99990, seeds, least, 0), above / common);
                due("odds below", x.odds(99990, seeds, least, 1), seeds / common);
            }
        }
        due("all", x.odds(0, 40, 0, 0), 1);
        due("all", x.odds(0, 40, 0, 1), 1);
        due("none", x.odds(0, 40, 999, 0), 0);
        due("none", x.odds(0, 40, 999, 1), 1);
        long no = BedsocksKeepRoads.NO;
        due("odds(-1, 1, 0, 0)", x.odds(-1, 1, 0, 0), no);
        due("odds(100000, 1, 0, 0)", x.odds(100000, 1, 0, 0), no);
        due("odds(99999, 1, 0, 1)", x.odds(99999, 1, 0, 1), 1);
        due("odds(0, 0, 0, 0)", x.odds(0, 0, 0, 0), no);
        due("odds(0, 41, 0, 0)", x.odds(0, 41, 0, 0), no);
        due("odds(0, 1, -1, 0)", x.odds(0, 1, -1, 0), no);
        due("odds(0, 1, 1000, 0)", x.odds(0, 1, 1000, 0), no);
        due("odds(0, 1, 0, 2)", x.odds(0, 1, 0, 2), no);
        due("odds(0, 1, 0, -1)", x.odds(0, 1, 0, -1), no);
    }

    private static void image() {
        promise(33);
        due("back()", x.back(), -3);
        due("image()", x.image(), 0);
        x.sleeper(0, 0);
        x.flood(1, 1);
        x.dusk(3);
        due("promise 34: back()", x.back(), 0);
        due("no sleepers", x.count(0), 0);
        due("dry", x.count(1), 0);
        due("night 0", x.count(2), 0);
        x.sleeper(35, 273);
        x.sleeper(0, 10);
        Check.sock(x, 0, 1, 2, 0);
        x.put(0, 2, 1);
        x.put(0, 3, 5);
        x.put(0, 4, 50);
        x.flood(40, 1);
        x.dusk(7);
        due("image()", x.image(), 2);
        due("text()", Check.text(x, "goes 9;minds 9;wears 9;"), 1);
        Check.feed(x, "abc");
        x.force(1);
        x.sheet(2, 1, 3);
        for (int what = 0; what < 5; what++) {
            x.put(0, what, 0);
        }
        x.darn(0, 0, 4);
        Check.sock(x, 1, 3, 3);
        x.flood(41, 1);
        x.flood(40, 0);
        x.night();
        due("sleeper()", x.sleeper(50, 0), 2);
        CHECK.at("promise 34");
        for (int again = 0; again < 2; again++) {
            due("back()", x.back(), 2);
            state("as in the image", 0, 27, 3, 1, 5, 50);
            state("as in the image", 1, 1, 0, 0, 0, 99);
            due("sock", x.told(0, 10), 3);
            due("sock", x.told(0, 20), 1);
            due("sock", x.told(1, 10), 1);
            due("sock", x.told(1, 20), 0);
            due("none such", x.told(2, 0), -5000);
            due("water", x.track(0, -2), 1L << 40);
            due("night", x.count(2), 7);
            due("the law", x.count(4), 0);
            due("texts stay", x.count(3), 2);
            due("the tape stays", x.count(5), 3);
            due("sheets stay", x.cell(2, 2, 1), 1);
            due("kind", x.told(0, 5), 3);
            due("more", x.told(0, 6), 5);
            due("a new one has what one comes with", x.sleeper(11, 20), 2);
            state("new", 2, 2, 0, 0, 0, 99);
            Check.sock(x, 2, 4, 4, 4);
            x.put(2, 2, 2);
            x.put(2, 3, 9);
            x.put(2, 4, 9);
            x.put(0, 0, 33);
            x.darn(0, 1, 4);
        }
        x.back();
        x.sleeper(22, 30);
        due("one stitch, as one comes", x.told(2, 10), 1);
        due("it is no bridge", x.told(2, 20), 0);
        state("as one comes", 2, 3, 0, 0, 0, 99);
        x.put(0, 0, 9);
        due("image() anew", x.image(), 3);
        x.put(0, 0, 8);
        due("back()", x.back(), 3);
        due("told(0, 0)", x.told(0, 0), 9);
    }

    private static void sheet() {
        promise(35);
        due("sheet(4, 0, 1)", x.sheet(4, 0, 1), -2);
        due("sheet(-1, 0, 1)", x.sheet(-1, 0, 1), -2);
        due("sheet(0, 3, -1)", x.sheet(0, 3, -1), -2);
        due("sheet(0, -2, 1)", x.sheet(0, -2, 1), -2);
        due("sheet(0, 0, 41)", x.sheet(0, 0, 41), -2);
        due("sheet(0, 0, -1)", x.sheet(0, 0, -1), -14);
        due("sheet(0, 0, MIN)", x.sheet(0, 0, Integer.MIN_VALUE), -14);
        due("still missing", x.cell(0, 0, 0), -11);
        due("sheet(0, 2, 40)", x.sheet(0, 2, 40), 1);
        due("cell(0, 39, 7)", x.cell(0, 39, 7), 1);
        due("cell(0, 40, 7)", x.cell(0, 40, 7), -12);
        due("sheet(0, 0, 0)", x.sheet(0, 0, 0), 1);
        due("cell(0, 0, 0)", x.cell(0, 0, 0), -12);
        Check.row(x, 0, 0, 3, 3);
        due("sheet(0, 0, 2)", x.sheet(0, 0, 2), 1);
        x.sleeper(0, 0);
        due("all 0", x.knit(0, 0), 2);
        due("all 0", x.told(0, 20), 0);
        due("all 0", x.told(0, 21), 0);
        due("sheet(0, -1, 99)", x.sheet(0, -1, 99), 1);
        due("missing", x.cell(0, 0, 0), -11);
        due("sheet(0, -1, -9)", x.sheet(0, -1, -9), 1);
    }

    /** The number in a sheet's place, found by who would be there behind a night of no stitches. */
    private static void dueNumber(String call, int s, int want) {
        BedsocksKeepRoads y = x;
        due(call, y.judge(s, 0), want >= 0 && want == y.told(0, 0) ? -1 : 0);
    }

    private static void cell() {
        promise(36);
        Check.text(x, "goes 0;minds 0;wears 0;");
        x.force(1);
        x.sleeper(0, 50);
        due("cell(4, 0, 0)", x.cell(4, 0, 0), -2);
        due("cell(-1, 0, 0)", x.cell(-1, 0, 0), -2);
        due("cell(0, 9, 0)", x.cell(0, 9, 0), -11);
        x.sheet(0, 0, 1);
        due("cell(0, 1, 0)", x.cell(0, 1, 0), -12);
        due("cell(0, -1, 0)", x.cell(0, -1, 0), -12);
        due("cell(0, 0, 5)", x.cell(0, 0, 5), 1);
        dueNumber("5", 0, 5);
        x.cell(0, 0, 256 + 5);
        dueNumber("lowest 8", 0, 5);
        x.cell(0, 0, -256 + 5);
        dueNumber("lowest 8", 0, 5);
        x.sheet(0, 1, 1);
        x.cell(0, 0, 256 + 5);
        dueNumber("lowest 16", 0, 261);
        x.cell(0, 0, 65536 + 5);
        dueNumber("lowest 16", 0, 5);
        x.sheet(0, 2, 1);
        x.cell(0, 0, 65536 + 5);
        dueNumber("an int", 0, 65541);
        x.cell(0, 0, 5);
        dueNumber("an int", 0, 5);
    }

    private static void copy() {
        promise(37);
        Check.row(x, 0, 2, 1, 2, 3, 4);
        due("copy(4, 0, 0, 0, 1)", x.copy(4, 0, 0, 0, 1), -2);
        due("copy(0, 0, -1, 0, 1)", x.copy(0, 0, -1, 0, 1), -2);
        due("copy(1, 0, 4, 0, 1)", x.copy(1, 0, 4, 0, 1), -2);
        due("copy(0, 0, 1, 0, -1)", x.copy(0, 0, 1, 0, -1), -11);
        due("copy(1, 0, 0, 0, -1)", x.copy(1, 0, 0, 0, -1), -11);
        x.sheet(1, 1, 4);
        due("copy(0, 0, 1, 0, -1)", x.copy(0, 0, 1, 0, -1), -13);
        x.sheet(1, 2, 3);
        due("n below 0", x.copy(0, 0, 1, 0, -1), -12);
        due("i below 0", x.copy(0, -1, 1, 0, 1), -12);
        due("j below 0", x.copy(0, 0, 1, -1, 1), -12);
        due("from too far", x.copy(0, 2, 1, 0, 3), -12);
        due("to too far", x.copy(0, 0, 1, 1, 3), -12);
        due("far", x.copy(0, Integer.MAX_VALUE, 1, 0, 1), -12);
        due("far", x.copy(0, 1, 1, 0, Integer.MAX_VALUE), -12);
        due("none, beyond", x.copy(0, 5, 1, 0, 0), -12);
        due("none, at the end", x.copy(0, 4, 1, 3, 0), 0);
        due("copy(0, 1, 1, 0, 3)", x.copy(0, 1, 1, 0, 3), 3);
        x.sleeper(0, 0);
        x.cell(1, 2, 1);
        due("knit", x.knit(1, 0), 3);
        due("copied", x.told(0, 20), 2);
        due("copied", x.told(0, 21), 3);
        due("its own place", x.told(0, 22), 1);
        due("to its own", x.copy(0, 0, 0, 1, 3), 3);
        x.knit(0, 0);
        int[] want = {1, 1, 2, 3};
        for (int k = 0; k < 4; k++) {
            due("as they were", x.told(0, 20 + k), want[k]);
        }
        due("to its own, back", x.copy(0, 1, 0, 0, 3), 3);
        x.knit(0, 0);
        int[] back = {1, 2, 3, 3};
        for (int k = 0; k < 4; k++) {
            due("as they were", x.told(0, 20 + k), back[k]);
        }
    }

    private static void sleepersBy() {
        promise(38);
        Check.row(x, 0, 2, 47, 632, 59, 634, 11, 100, 60, 0, 22);
        due("sheet 4", x.sleepersBy(4, 2, 0, 1), -2);
        due("sort 3", x.sleepersBy(1, 3, 0, 1), -2);
        due("sort -1", x.sleepersBy(1, -1, 0, 1), -2);
        due("n 7", x.sleepersBy(1, 2, 0, 7), -2);
        due("n -1", x.sleepersBy(1, 2, 0, -1), -2);
        due("missing", x.sleepersBy(1, 2, 0, 1), -11);
        due("sort 1", x.sleepersBy(0, 1, -1, 1), -13);
        due("outside", x.sleepersBy(0, 2, -1, 1), -12);
        due("outside", x.sleepersBy(0, 2, 8, 1), -12);
        due("outside", x.sleepersBy(0, 2, Integer.MAX_VALUE, 1), -12);
        due("outside", x.sleepersBy(0, 2, Integer.MIN_VALUE, 2), -12);
        due("nobody came", x.count(0), 0);
        due("n 0", x.sleepersBy(0, 2, 0, 0), 0);
        due("others are left out", x.sleepersBy(0, 2, 0, 4), 2);
        due("told(0, 5)", x.told(0, 5), 4);
        due("told(0, 6)", x.told(0, 6), 7);
        due("told(0, 0)", x.told(0, 0), 63);
        due("told(0, 1)", x.told(0, 1), 2);
        due("told(1, 0)", x.told(1, 0), 10);
        due("what stood ahead came", x.sleepersBy(0, 2, 0, 5), -12);
        due("count(0)", x.count(0), 4);
        due("from a place on", x.sleepersBy(0, 2, 4, 1), 1);
        due("full", x.sleepersBy(0, 2, 0, 4), 1);
        due("full", x.sleepersBy(0, 2, 0, 1), 0);
        due("count(0)", x.count(0), 6);
        promise(38);
        Check.row(x, 0, 2, new int[14]);
        due("six", x.sleepersBy(0, 2, 0, 6), 6);
        promise(38);
        Check.row(x, 0, 0, 5, 120, 5, 200);
        due("bytes", x.sleepersBy(0, 0, 0, 2), 1);
        Check.row(x, 0, 1, 5, 120, 5, 65536 + 201);
        due("shorts", x.sleepersBy(0, 1, 0, 2), 2);
        due("told(2, 0)", x.told(2, 0), 20);
    }

    /**
     * A girl's wool is worn off in each third night alone, so that one who goes by it shows which night
     * it is told that it is: from night 997 on hers is 3 3 3 1 1 1 0.
     */
    private static void nightsInThought() {
        CHECK.at("promises 15 .. 30: NIGHT in thought");
        x = new BedsocksKeepRoads();
        Check.text(x, "goes (wool < 3) * (1 + (wool < 1)); minds 0; wears 2;");
        x.force(1);
        x.sleeper(30, 0);
        x.put(0, 4, 3);
        x.dusk(997);
        x.sleeper(31, 80);
        x.put(1, 4, 3);
        // of more 9, one goes 1 till wool is below 3, then 2 * 1 and 1
        x.sleeper(39, 160);
        x.put(2, 4, 3);
        int[] cells = {17, 18, 19, 22, 23, 23};
        for (int n = 1; n <= 6; n++) {
            due("run(" + n + ", 12)", x.run(n, 12), cells[n - 1]);
        }
        Check.row(x, 0, 0, cells);
        due("judge", x.judge(0, 2), -1);
        due("film", x.film(1, 2, 6), 6);
        due("judge by film", x.judge(1, 2), -1);
        x.copy(0, 0, 1, 0, 6);
        due("judge by what is told", x.judge(1, 2), -1);
        due("comes", x.comes(2, 22), 4);
        due("comes", x.comes(2, 23), 5);
        due("track(4, 2)", x.track(4, 2), 127L << 16);
        due("track(3, 2)", x.track(3, 2), 15L << 16);
        due("kinds", x.kinds(0, 2, 0), 8);
        due("whose", x.whose(0), 4);
        due("turn", x.turn(2, 5, 1), 0);
        x.flood(23, 1);
        due("wet", x.turn(2, 5, 0), 1);
        due("anew", x.anew(2, 22, 4, 1), 0);
        due("none nearer", x.anew(2, 22, 4, 0), -1);
        x.sleeper(0, 220);
        x.put(3, 4, 0);
        due("meet", x.meet(2, 3), 4);
        due("the girl's night is now's, else", x.told(2, 9), 0);
        x.dusk(0);
        due("her night", x.told(2, 9), 2);
        due("another night, other cells", x.judge(0, 2), 1);
    }

    private static void taken() {
        promise(39);
        for (int kind = 0; kind < 6; kind++) {
            x.sleeper(10 * kind, 0);
            x.put(kind, 4, 90 + kind);
        }
        boolean[][] isA = {
            {true, false, false, false, false, false},
            {true, true, false, false, false, false},
            {true, false, true, false, false, false},
            {true, true, false, true, false, false},
            {true, false, true, false, true, false},
            {true, false, false, false, false, true},
        };
        for (int i = 0; i < 6; i++) {
            for (int kind = 0; kind < 6; kind++) {
                due("taken(" + i + ", " + kind + ")", x.taken(i, kind), isA[i][kind] ? i : -13);
                due("taken(6 + " + i + ", " + kind + ")", x.taken(6 + i, kind), -13);
            }
            due("taken(" + i + ", 6)", x.taken(i, 6), -13);
            due("taken(6 + " + i + ", 6)", x.taken(6 + i, 6), 90 + i);
        }
        due("taken(12, 7)", x.taken(12, 7), -2);
        due("taken(0, -1)", x.taken(0, -1), -2);
        due("taken(12, 0)", x.taken(12, 0), -12);
        due("taken(-1, 6)", x.taken(-1, 6), -12);
        promise(39);
        x.sleeper(0, 0);
        due("taken(1, 0)", x.taken(1, 0), -11);
        due("taken(1, 6)", x.taken(1, 6), -11);
        due("taken(7, 6)", x.taken(7, 6), -11);
        due("taken(7, 0)", x.taken(7, 0), -11);
        due("taken(5, 5)", x.taken(5, 5), -11);
    }
}
