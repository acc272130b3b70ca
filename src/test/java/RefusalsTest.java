/**
 * Each refusal of each promise by its own answer, the first one where two hold, and that the refused
 * call (and each call that asks) leaves all as it was: an object that was asked is held against one that wasn't.
 */
public final class RefusalsTest {
    private static final Check CHECK = new Check();
    private static final long NO = BedsocksKeepRoads.NO;
    private static final int MIN = Integer.MIN_VALUE, MAX = Integer.MAX_VALUE;

    interface Call {
        long of(BedsocksKeepRoads x);
    }

    interface Before {
        void of(BedsocksKeepRoads x);
    }

    private static final Before NOTHING = x -> { };
    private static Before before = NOTHING;

    private static void promise(int number) {
        CHECK.at("promise " + number);
        before = NOTHING;
    }

    /** Three sleepers, three texts (the law is 2), an image of two, a tape begun; sheets: ints, bytes, shorts, none. */
    private static BedsocksKeepRoads stage() {
        BedsocksKeepRoads x = new BedsocksKeepRoads();
        x.flood(9, 1);
        x.flood(40, 1);
        x.sleeper(14, 0);
        x.sleeper(37, 271);
        Check.sock(x, 0, 0, 1, 2, 4, 3);
        x.put(0, 2, 2);
        x.put(0, 3, 7);
        x.put(0, 4, 60);
        x.dusk(5);
        x.image();
        x.sleeper(29, 632);
        x.put(1, 0, 33);
        Check.text(x, "goes 0;minds more;wears 2;");
        Check.text(x, "goes 3;minds wet-9;wears row;");
        x.force(2);
        x.dusk(8);
        x.darn(0, 1, 4);
        x.flood(50, 1);
        Check.feed(x, "goes 7;");
        Check.row(x, 0, 2, 0, 3, 4, 1);
        Check.row(x, 1, 0, 1, 2, 3, 4, 5, 6, 7, 8, 9, 10, 11, 12, 13, 14, 15, 16, 17, 18, 19, 20, 21);
        Check.row(x, 2, 1, 5, 0);
        return x;
    }

    private static void due(String name, Call call, long want) {
        BedsocksKeepRoads x = stage();
        BedsocksKeepRoads y = stage();
        before.of(x);
        before.of(y);
        CHECK.due(name, call.of(x), want);
        String seen = Probe.of(x);
        String wanted = Probe.of(y);
        CHECK.due(name + " changes nothing", seen.equals(wanted) ? 0 : 1, 0);
    }

    /** What is asked (and its answer held against another call of itself) changes nothing. */
    private static void asked(String name, Call call) {
        BedsocksKeepRoads x = stage();
        before.of(x);
        due(name, call, call.of(x));
    }

    public static void main(String[] args) {
        stageIsAsTold();
        land();
        tape();
        texts();
        sleepers();
        told();
        socks();
        nights();
        meetings();
        best();
        toldNights();
        toldNightsFirst();
        film();
        floods();
        images();
        sheets();
        copies();
        sleepersBy();
        taken();
        asksOfState();
        asksOfNights();
        asksOfToldNights();
        CHECK.end();
    }

    /** That the probe sees a change of each thing that is held; else it would prove nothing. */
    private static void stageIsAsTold() {
        CHECK.at("the probe");
        String plain = Probe.of(stage());
        CHECK.due("the same twice", plain.equals(Probe.of(stage())) ? 1 : 0, 1);
        Before[] changes = {
            x -> x.dusk(9), x -> x.flood(0, 1), x -> x.flood(9, 0), x -> x.feed(1, 32, 0, 0, 0, 0), x -> x.text(),
            x -> x.force(0), x -> x.sleeper(0, 0), x -> x.put(0, 0, 1), x -> x.put(1, 1, 3), x -> x.put(0, 2, 3),
            x -> x.put(2, 3, 1), x -> x.put(2, 4, 98), x -> x.knit(0, 0), x -> x.darn(0, 4, 0), x -> x.night(),
            x -> x.image(), x -> x.back(), x -> x.sheet(0, 2, 4), x -> x.sheet(2, 0, 2), x -> x.sheet(2, -1, 0),
            x -> x.sheet(3, 0, 0), x -> x.cell(1, 20, 0), x -> x.cell(2, 1, 1), x -> x.cell(0, 0, 1),
            x -> x.copy(0, 0, 0, 1, 1), x -> x.film(2, 0, 2), x -> x.sleepersBy(0, 2, 0, 1),
            x -> Check.text(x, "minds 1;wears 1;"),
        };
        for (int i = 0; i < changes.length; i++) {
            BedsocksKeepRoads x = stage();
            changes[i].of(x);
            CHECK.due("change " + i + " is seen", plain.equals(Probe.of(x)) ? 1 : 0, 0);
        }
    }

    private static void land() {
        promise(2);
        due("count(-1)", x -> x.count(-1), -2);
        due("count(6)", x -> x.count(6), -2);
        due("count(MAX)", x -> x.count(MAX), -2);
        due("count(MIN)", x -> x.count(MIN), -2);
        promise(3);
        due("dusk(-1)", x -> x.dusk(-1), -2);
        due("dusk(1000)", x -> x.dusk(1000), -2);
        due("dusk(MIN)", x -> x.dusk(MIN), -2);
        due("dusk(MAX)", x -> x.dusk(MAX), -2);
        promise(4);
        due("no such cell", x -> x.flood(-1, 1), -5);
        due("no such cell", x -> x.flood(64, 1), -5);
        due("no such cell", x -> x.flood(64, 0), -5);
        due("no such cell", x -> x.flood(MIN, 0), -5);
        due("is", x -> x.flood(9, -1), -7);
        due("is", x -> x.flood(9, 2), -7);
        due("is", x -> x.flood(0, MAX), -7);
        due("no such cell, ahead of is", x -> x.flood(64, 2), -5);
        due("no such cell, ahead of is", x -> x.flood(-1, -1), -5);
    }

    private static void tape() {
        promise(5);
        due("n 0", x -> x.feed(0, 59, 59, 59, 59, 59), -2);
        due("n -1", x -> x.feed(-1, 59, 59, 59, 59, 59), -2);
        due("n 6", x -> x.feed(6, 59, 59, 59, 59, 59), -2);
        due("n MAX", x -> x.feed(MAX, 59, 59, 59, 59, 59), -2);
        due("n MIN", x -> x.feed(MIN, 59, 59, 59, 59, 59), -2);
        for (int wrong : new int[] {-1, 256, MIN, MAX}) {
            for (int n = 1; n <= 5; n++) {
                int m = n;
                due("a " + wrong, x -> x.feed(m, wrong, 59, 59, 59, 59), -2);
                due("b " + wrong, x -> x.feed(m, 59, wrong, 59, 59, 59), -2);
                due("c " + wrong, x -> x.feed(m, 59, 59, wrong, 59, 59), -2);
                due("d " + wrong, x -> x.feed(m, 59, 59, 59, wrong, 59), -2);
                due("e " + wrong, x -> x.feed(m, 59, 59, 59, 59, wrong), -2);
            }
        }
        for (int room = 0; room < 5; room++) {
            int size = 160 - room;
            before = x -> Check.feed(x, " ".repeat(size - x.count(5)));
            for (int n = room + 1; n <= 5; n++) {
                int m = n;
                due("no room for all of " + n, x -> x.feed(m, 59, 59, 59, 59, 59), -4);
            }
        }
        due("BAD n, ahead of FULL", x -> x.feed(6, 59, 59, 59, 59, 59), -2);
        due("BAD byte, ahead of FULL", x -> x.feed(5, 59, 59, 59, 59, 256), -2);
        due("BAD byte that is not to come, ahead of FULL", x -> x.feed(1, 59, 59, 59, 59, -1), -2);
    }

    private static void moreTexts(BedsocksKeepRoads x) {
        x.text();
        for (int t = 3; t < 6; t++) {
            Check.text(x, "goes " + t + ";minds 0;wears 0;");
        }
    }

    private static void texts() {
        promise(6);
        before = x -> {
            moreTexts(x);
            Check.feed(x, "goes 1;minds 1;wears 1;");
        };
        due("full", x -> x.text(), -4);
        before = x -> {
            moreTexts(x);
            Check.feed(x, "goes 1;?");
        };
        due("FULL, ahead of the FAULT", x -> x.text(), -4);
        before = RefusalsTest::moreTexts;
        due("FULL, of an empty tape", x -> x.text(), -4);
        before = x -> x.text();
        due("the FAULT of an empty tape", x -> x.text(), -100);
        promise(7);
        before = NOTHING;
        due("force(-1)", x -> x.force(-1), -2);
        due("force(3)", x -> x.force(3), -2);
        due("force(5)", x -> x.force(5), -2);
        due("force(MIN)", x -> x.force(MIN), -2);
        due("force(MAX)", x -> x.force(MAX), -2);
        before = RefusalsTest::moreTexts;
        due("force(6)", x -> x.force(6), -2);
        before = x -> {
            x.text();
            Check.text(x, "goes 1;minds 1;wears ;");
        };
        due("what had a FAULT is no text", x -> x.force(3), -2);
        promise(8);
        due("part -1", x -> x.asks(-1, 0), -1000);
        due("part 3", x -> x.asks(3, 0), -1000);
        due("part MIN", x -> x.asks(MIN, 0), -1000);
        due("nobody", x -> x.asks(0, -1), -1000);
        due("nobody", x -> x.asks(0, 3), -1000);
        due("nobody", x -> x.asks(2, MAX), -1000);
        due("neither", x -> x.asks(3, 3), -1000);
    }

    private static void sixSleepers(BedsocksKeepRoads x) {
        for (int p = 3; p < 6; p++) {
            x.sleeper(10 * p, 10 * p);
        }
    }

    private static void sleepers() {
        promise(9);
        int[] wrongKinds = {-1, -10, 60, 61, 100, MIN, MAX};
        int[] wrongCells = {-1, -10, 4, 9, 14, 634, 639, 640, 641, 1000, MIN, MAX};
        for (int round = 0; round < 2; round++) {
            for (int kindMore : wrongKinds) {
                due("kindMore " + kindMore, x -> x.sleeper(kindMore, 0), -2);
                due("both, " + kindMore, x -> x.sleeper(kindMore, 4), -2);
            }
            for (int cellWay : wrongCells) {
                due("cellWay " + cellWay, x -> x.sleeper(0, cellWay), -2);
            }
            before = RefusalsTest::sixSleepers;
        }
        due("full", x -> x.sleeper(0, 0), -4);
        due("full", x -> x.sleeper(59, 633), -4);
        promise(10);
        for (int p : new int[] {-1, 3, 6, MIN, MAX}) {
            due("nobody", x -> x.put(p, 0, 0), -5);
            due("nobody, ahead of what", x -> x.put(p, 5, 0), -5);
            due("nobody, ahead of v", x -> x.put(p, 0, 64), -5);
        }
        for (int what : new int[] {-1, 5, 6, 10, 20, MIN, MAX}) {
            due("what " + what, x -> x.put(0, what, 0), -7);
        }
        int[] bounds = {64, 4, 5, 100, 100};
        for (int what = 0; what < 5; what++) {
            for (int v : new int[] {-1, bounds[what], MIN, MAX}) {
                int part = what;
                due("what " + what + " v " + v, x -> x.put(0, part, v), -7);
            }
        }
        due("NEXT of one's own sock", x -> x.put(1, 2, 1), -7);
        before = RefusalsTest::sixSleepers;
        due("nobody, of six", x -> x.put(6, 0, 0), -5);
    }

    private static void told() {
        promise(11);
        for (int p : new int[] {-1, 3, 6, MIN, MAX}) {
            due("nobody", x -> x.told(p, 0), -5000);
            due("nobody, ahead of what", x -> x.told(p, 11), -5000);
        }
        for (int what : new int[] {-1, 11, 12, 19, 25, 26, 36, MIN, MAX}) {
            due("what " + what, x -> x.told(0, what), -7000);
        }
        due("no such stitch of a sock of one", x -> x.told(1, 21), -7000);
        before = RefusalsTest::sixSleepers;
        due("nobody, of six", x -> x.told(6, 0), -5000);
    }

    private static void socks() {
        promise(12);
        for (int s : new int[] {-1, 4, MIN, MAX}) {
            due("no such sheet", x -> x.knit(s, 0), -2);
            due("no such sheet, ahead of nobody", x -> x.knit(s, 3), -2);
        }
        due("missing", x -> x.knit(3, 0), -11);
        due("missing, ahead of nobody", x -> x.knit(3, 3), -11);
        due("more than 16", x -> x.knit(1, 0), -2);
        due("no stitch", x -> x.knit(2, 0), -2);
        due("no stitch, ahead of nobody", x -> x.knit(2, 3), -2);
        for (int p : new int[] {-1, 3, 6, MIN, MAX}) {
            due("nobody", x -> x.knit(0, p), -5);
        }
        before = x -> x.sheet(2, 0, 0);
        due("none", x -> x.knit(2, 0), -2);
        due("none, ahead of nobody", x -> x.knit(2, -1), -2);
        before = x -> x.sheet(2, 1, 17);
        due("17", x -> x.knit(2, 0), -2);
        due("17, ahead of nobody", x -> x.knit(2, 9), -2);
        for (int wrong : new int[] {-1, 5, 256, MIN, MAX}) {
            for (int k = 0; k < 4; k++) {
                int place = k;
                before = x -> x.cell(0, place, wrong);
                due("no stitch " + wrong + " at " + k, x -> x.knit(0, 0), -2);
            }
        }
        promise(13);
        for (int p : new int[] {-1, 3, 6, MIN, MAX}) {
            due("nobody", x -> x.darn(p, 0, 0), -5);
            due("nobody, ahead of k", x -> x.darn(p, 16, 0), -5);
            due("nobody, ahead of the stitch", x -> x.darn(p, 0, 5), -5);
        }
        for (int k : new int[] {-1, 5, 15, 16, MIN, MAX}) {
            due("k " + k, x -> x.darn(0, k, 1), -7);
        }
        for (int stitch : new int[] {-1, 5, MIN, MAX}) {
            due("stitch " + stitch, x -> x.darn(0, 0, stitch), -7);
        }
        due("both", x -> x.darn(0, 5, 5), -7);
    }

    private static void nights() {
        promise(14);
        before = x -> x.dusk(999);
        due("NIGHT is 999", x -> x.night(), -3);
        promise(15);
        for (int n : new int[] {-1, 41, MIN, MAX}) {
            due("n " + n, x -> x.run(n, 0), -100000);
            due("n " + n, x -> x.run(n, 10), -100000);
            due("both", x -> x.run(n, 3), -100000);
        }
        for (int what : new int[] {-1, 3, 9, 13, 15, 16, 19, 23, 25, 26, 30, MIN, MAX, MIN + 10, MIN + 20}) {
            due("what " + what, x -> x.run(1, what), -100000);
        }
        before = RefusalsTest::sixSleepers;
        due("no seventh's cell", x -> x.run(1, 16), -100000);
        due("no seventh's wet", x -> x.run(1, 26), -100000);
        promise(16);
        for (int n : new int[] {-1, 41, MIN, MAX}) {
            due("n " + n, x -> x.track(n, -1), NO);
            due("n " + n, x -> x.track(n, 0), NO);
            due("both", x -> x.track(n, 3), NO);
        }
        for (int what : new int[] {-3, 3, 6, MIN, MAX}) {
            due("what " + what, x -> x.track(1, what), NO);
        }
        before = RefusalsTest::sixSleepers;
        due("no seventh", x -> x.track(1, 6), NO);
        promise(17);
        for (int p : new int[] {-1, 3, 6, MIN, MAX}) {
            due("nobody", x -> x.comes(p, 0), -5);
            due("nobody, ahead of c", x -> x.comes(p, 64), -5);
        }
        for (int c : new int[] {-1, 64, MIN, MAX}) {
            due("c " + c, x -> x.comes(0, c), -7);
        }
    }

    private static void meetings() {
        promise(18);
        for (int p : new int[] {-1, 3, 6, MIN, MAX}) {
            due("no such two", x -> x.meet(p, 0), -5);
            due("no such two", x -> x.meet(0, p), -5);
            due("no such one and the same", x -> x.meet(p, p), -5);
        }
        for (int p = 0; p < 3; p++) {
            int q = p;
            due("one and the same", x -> x.meet(q, q), -5);
        }
        promise(19);
        for (int p : new int[] {-1, 3, 6, MIN, MAX}) {
            due("no such two", x -> x.alike(p, 0, 0), -5);
            due("no such two", x -> x.alike(0, p, 1), -5);
            due("no such two, ahead of what", x -> x.alike(p, 0, 2), -5);
            due("no such two, ahead of what", x -> x.alike(0, p, -1), -5);
            due("no such one and the same", x -> x.alike(p, p, 0), -5);
        }
        for (int what : new int[] {-1, 2, MIN, MAX}) {
            due("what " + what, x -> x.alike(0, 1, what), -7);
            due("what, ahead of -1", x -> x.alike(1, 0, what), -7);
            due("what " + what, x -> x.alike(0, 0, what), -7);
        }
    }

    private static void best() {
        int[] whats = {-1, 2, MIN, MAX};
        for (int p : new int[] {-1, 3, 6, MIN, MAX}) {
            promise(20);
            due("nobody", x -> x.anew(p, 0, 1, 0), -5);
            due("nobody, ahead of c", x -> x.anew(p, 64, 1, 0), -5);
            due("nobody, ahead of n", x -> x.anew(p, 0, 21, 0), -5);
            due("nobody, ahead of what", x -> x.anew(p, 0, 1, 2), -5);
            promise(22);
            due("nobody", x -> x.turn(p, 1, 0), -5);
            due("nobody, ahead of n", x -> x.turn(p, 41, 0), -5);
            due("nobody, ahead of what", x -> x.turn(p, 1, 2), -5);
        }
        promise(20);
        for (int c : new int[] {-1, 64, MIN, MAX}) {
            due("c " + c, x -> x.anew(0, c, 1, 0), -7);
        }
        for (int n : new int[] {-1, 21, MIN, MAX}) {
            promise(20);
            due("n " + n, x -> x.anew(0, 0, n, 0), -7);
            promise(21);
            due("n " + n, x -> x.drain(n, 0), -2);
            due("both", x -> x.drain(n, 2), -2);
        }
        for (int what : whats) {
            promise(20);
            due("what " + what, x -> x.anew(0, 0, 1, what), -7);
            due("what, ahead of -1", x -> x.anew(0, 0, 0, what), -7);
            promise(21);
            due("what " + what, x -> x.drain(1, what), -2);
            due("what, ahead of -1", x -> x.drain(0, what), -2);
            promise(22);
            due("what " + what, x -> x.turn(0, 1, what), -7);
            promise(23);
            due("part " + what, x -> x.share(1, what), NO);
        }
        for (int n : new int[] {-1, 41, MIN, MAX}) {
            promise(22);
            due("n " + n, x -> x.turn(0, n, 0), -7);
            promise(23);
            due("n " + n, x -> x.share(n, 0), NO);
            due("n " + n, x -> x.share(n, 1), NO);
            due("both", x -> x.share(n, 2), NO);
        }
    }

    /** The calls of told nights, by numbers of their own: what each refuses is alike. */
    private static long ofTold(BedsocksKeepRoads x, int promise, int s, int p, int sort) {
        switch (promise) {
            case 24: return x.judge(s, p);
            case 25: return x.kinds(s, p, sort);
            case 26: return x.begins(s, p);
            case 27: return x.ways(s, p, sort);
            default: return x.laws(s, p);
        }
    }

    private static void toldNights() {
        for (int number : new int[] {24, 25, 26, 27, 29}) {
            promise(number);
            boolean bits = number == 26;
            for (int s : new int[] {-1, 4, MIN, MAX}) {
                due("no such sheet", x -> ofTold(x, number, s, 0, 1), bits ? NO : -2);
            }
            due("missing", x -> ofTold(x, number, 3, 0, 1), bits ? NO : -11);
            due("tells 21", x -> ofTold(x, number, 1, 0, 1), bits ? NO : -2);
            for (int p : new int[] {-1, 3, 6, MIN, MAX}) {
                due("nobody", x -> ofTold(x, number, 0, p, 1), bits ? NO : -5);
            }
            before = x -> x.sheet(2, 2, 40);
            due("tells 40", x -> ofTold(x, number, 2, 0, 1), bits ? NO : -2);
        }
        promise(28);
        due("no such sheet", x -> x.whose(-1), -2);
        due("no such sheet", x -> x.whose(4), -2);
        due("no such sheet", x -> x.whose(MIN), -2);
        due("no such sheet", x -> x.whose(MAX), -2);
        due("missing", x -> x.whose(3), -11);
        due("tells 21", x -> x.whose(1), -2);
        before = x -> {
            x.sheet(2, 2, 40);
            x.sheet(0, 0, 21);
        };
        due("tells 40", x -> x.whose(2), -2);
        due("tells 21", x -> x.whose(0), -2);
    }

    private static void toldNightsFirst() {
        for (int number : new int[] {24, 25, 27, 29}) {
            promise(number);
            due("no such sheet, ahead of all", x -> ofTold(x, number, 4, 3, 9), -2);
            due("missing, ahead of nobody", x -> ofTold(x, number, 3, 3, 9), -11);
            due("tells 21, ahead of nobody", x -> ofTold(x, number, 1, 3, 9), -2);
            due("nobody, ahead of sort", x -> ofTold(x, number, 0, 3, 9), -5);
        }
        promise(25);
        for (int sort : new int[] {-1, 2, MIN, MAX}) {
            due("sort " + sort, x -> x.kinds(0, 0, sort), -7);
            due("missing, ahead of sort", x -> x.kinds(3, 0, sort), -11);
            due("tells 21, ahead of sort", x -> x.kinds(1, 0, sort), -2);
        }
        promise(27);
        for (int sort : new int[] {-1, 0, 3, MIN, MAX}) {
            due("sort " + sort, x -> x.ways(0, 0, sort), -7);
            due("missing, ahead of sort", x -> x.ways(3, 0, sort), -11);
            due("tells 21, ahead of sort", x -> x.ways(1, 0, sort), -2);
        }
    }

    private static void film() {
        promise(30);
        for (int s : new int[] {-1, 4, MIN, MAX}) {
            due("no such sheet", x -> x.film(s, 0, 1), -2);
            due("no such sheet, ahead of nobody", x -> x.film(s, 3, 1), -2);
            due("no such sheet, ahead of n", x -> x.film(s, 0, 21), -2);
        }
        for (int p : new int[] {-1, 3, 6, MIN, MAX}) {
            due("nobody", x -> x.film(0, p, 1), -5);
            due("nobody, of a missing sheet", x -> x.film(3, p, 1), -5);
            due("nobody, ahead of n", x -> x.film(0, p, -1), -5);
        }
        for (int n : new int[] {-1, 21, 40, MIN, MAX}) {
            due("n " + n, x -> x.film(0, 0, n), -7);
            due("n " + n + " of a missing sheet", x -> x.film(3, 0, n), -7);
        }
    }

    private static void floods() {
        promise(31);
        for (int seed : new int[] {-1, 100000, MIN, MAX}) {
            due("seed " + seed, x -> x.drawn(seed, 0), -2);
            due("seed " + seed, x -> x.drawn(seed, 1), -2);
            due("both", x -> x.drawn(seed, 2), -2);
        }
        for (int what : new int[] {-1, 2, MIN, MAX}) {
            due("what " + what, x -> x.drawn(0, what), -2);
        }
        promise(32);
        for (int seed : new int[] {-1, 100000, MIN, MAX}) {
            due("seed " + seed, x -> x.odds(seed, 1, 0, 0), NO);
        }
        for (int seeds : new int[] {-1, 0, 41, MIN, MAX}) {
            due("seeds " + seeds, x -> x.odds(0, seeds, 0, 0), NO);
        }
        for (int least : new int[] {-1, 1000, MIN, MAX}) {
            due("least " + least, x -> x.odds(0, 1, least, 0), NO);
        }
        for (int part : new int[] {-1, 2, MIN, MAX}) {
            due("part " + part, x -> x.odds(0, 1, 0, part), NO);
        }
    }

    private static void images() {
        CHECK.at("promise 34");
        BedsocksKeepRoads x = new BedsocksKeepRoads();
        BedsocksKeepRoads y = new BedsocksKeepRoads();
        for (BedsocksKeepRoads z : new BedsocksKeepRoads[] {x, y}) {
            z.sleeper(59, 633);
            z.flood(5, 1);
            z.dusk(7);
            Check.text(z, "goes 0;minds 1;wears 1;");
            z.force(1);
        }
        CHECK.due("there is none", x.back(), -3);
        CHECK.due("there is none, twice", x.back(), -3);
        CHECK.due("it changes nothing", Probe.of(x).equals(Probe.of(y)) ? 1 : 0, 1);
    }

    private static void sheets() {
        promise(35);
        for (int s : new int[] {-1, 4, MIN, MAX}) {
            due("no such sheet", x -> x.sheet(s, 0, 1), -2);
            due("no such sheet to be missing", x -> x.sheet(s, -1, 0), -2);
            due("no such sheet, ahead of -14", x -> x.sheet(s, 0, -1), -2);
        }
        for (int sort : new int[] {-2, 3, MIN, MAX}) {
            due("sort " + sort, x -> x.sheet(0, sort, 1), -2);
            due("sort, ahead of -14", x -> x.sheet(0, sort, -1), -2);
            due("sort, with n above 40", x -> x.sheet(0, sort, 41), -2);
        }
        for (int sort = 0; sort < 3; sort++) {
            int of = sort;
            due("n 41", x -> x.sheet(0, of, 41), -2);
            due("n MAX", x -> x.sheet(0, of, MAX), -2);
            due("n -1", x -> x.sheet(0, of, -1), -14);
            due("n MIN", x -> x.sheet(0, of, MIN), -14);
            due("n -1 of a missing one", x -> x.sheet(3, of, -1), -14);
            due("n 41 of a missing one", x -> x.sheet(3, of, 41), -2);
        }
        promise(36);
        for (int s : new int[] {-1, 4, MIN, MAX}) {
            due("no such sheet", x -> x.cell(s, 0, 1), -2);
            due("no such sheet, ahead of -12", x -> x.cell(s, -1, 1), -2);
        }
        due("missing", x -> x.cell(3, 0, 1), -11);
        due("missing, ahead of -12", x -> x.cell(3, -1, 1), -11);
        due("missing, ahead of -12", x -> x.cell(3, 40, 1), -11);
        for (int i : new int[] {-1, 4, 39, 40, MIN, MAX}) {
            due("outside " + i, x -> x.cell(0, i, 1), -12);
        }
        due("outside 21", x -> x.cell(1, 21, 1), -12);
        due("outside 2", x -> x.cell(2, 2, 1), -12);
        before = x -> x.sheet(2, 0, 0);
        due("outside of none", x -> x.cell(2, 0, 1), -12);
        before = x -> x.sheet(2, 0, 40);
        due("outside of 40", x -> x.cell(2, 40, 1), -12);
    }

    private static void copies() {
        promise(37);
        for (int s : new int[] {-1, 4, MIN, MAX}) {
            due("no such sheet", x -> x.copy(s, 0, 0, 0, 1), -2);
            due("no such other", x -> x.copy(0, 0, s, 0, 1), -2);
            due("neither", x -> x.copy(s, 0, s, 0, 1), -2);
            due("no such sheet, ahead of missing", x -> x.copy(s, 0, 3, 0, 1), -2);
            due("no such other, ahead of missing", x -> x.copy(3, 0, s, 0, 1), -2);
            due("no such sheet, ahead of outside", x -> x.copy(s, -1, 0, 9, -1), -2);
        }
        due("missing", x -> x.copy(3, 0, 0, 0, 1), -11);
        due("missing other", x -> x.copy(0, 0, 3, 0, 1), -11);
        due("missing both", x -> x.copy(3, 0, 3, 0, 0), -11);
        due("missing, ahead of outside", x -> x.copy(3, -1, 0, 0, 1), -11);
        due("missing other, ahead of outside", x -> x.copy(0, 9, 3, 0, -1), -11);
        for (int s = 0; s < 3; s++) {
            int from = s;
            int to = (s + 1) % 3;
            due("unlike sorts", x -> x.copy(from, 0, to, 0, 1), -13);
            due("unlike sorts, the other way", x -> x.copy(to, 0, from, 0, 1), -13);
            due("unlike sorts, of none", x -> x.copy(from, 0, to, 0, 0), -13);
            due("unlike sorts, ahead of outside", x -> x.copy(from, -1, to, 99, -1), -13);
        }
        before = x -> x.sheet(2, 2, 3);
        due("n -1", x -> x.copy(0, 0, 2, 0, -1), -12);
        due("n MIN", x -> x.copy(0, 0, 2, 0, MIN), -12);
        due("i -1", x -> x.copy(0, -1, 2, 0, 1), -12);
        due("i -1, of none", x -> x.copy(0, -1, 2, 0, 0), -12);
        due("j -1", x -> x.copy(0, 0, 2, -1, 1), -12);
        due("j -1, of none", x -> x.copy(0, 0, 2, -1, 0), -12);
        due("from too far", x -> x.copy(0, 2, 2, 0, 3), -12);
        due("to too far", x -> x.copy(0, 0, 2, 1, 3), -12);
        due("all to a shorter one", x -> x.copy(0, 0, 2, 0, 4), -12);
        due("behind the end", x -> x.copy(0, 4, 2, 0, 1), -12);
        due("behind the other's end", x -> x.copy(0, 0, 2, 3, 1), -12);
        due("far behind, of none", x -> x.copy(0, 5, 2, 0, 0), -12);
        due("far behind the other's, of none", x -> x.copy(0, 0, 2, 4, 0), -12);
        due("round the int's end", x -> x.copy(0, 1, 2, 0, MAX), -12);
        due("round the int's end", x -> x.copy(0, MAX, 2, 0, 2), -12);
        due("round the int's end", x -> x.copy(0, 0, 2, MAX, 2), -12);
        due("of its own", x -> x.copy(0, 0, 0, 1, 4), -12);
    }

    private static void sleepersBy() {
        promise(38);
        for (int s : new int[] {-1, 4, MIN, MAX}) {
            due("no such sheet", x -> x.sleepersBy(s, 2, 0, 1), -2);
        }
        for (int sort : new int[] {-2, -1, 3, MIN, MAX}) {
            due("sort " + sort, x -> x.sleepersBy(0, sort, 0, 1), -2);
            due("sort, ahead of missing", x -> x.sleepersBy(3, sort, 0, 1), -2);
        }
        for (int n : new int[] {-1, 7, MIN, MAX}) {
            due("n " + n, x -> x.sleepersBy(0, 2, 0, n), -2);
            due("n, ahead of missing", x -> x.sleepersBy(3, 2, 0, n), -2);
            due("n, ahead of another sort", x -> x.sleepersBy(0, 1, 0, n), -2);
        }
        for (int sort = 0; sort < 3; sort++) {
            int of = sort;
            due("missing", x -> x.sleepersBy(3, of, 0, 1), -11);
            due("missing, ahead of outside", x -> x.sleepersBy(3, of, -1, 1), -11);
            due("another sort", x -> x.sleepersBy(sort(of + 1), of, 0, 1), -13);
            due("another sort", x -> x.sleepersBy(sort(of + 2), of, 0, 1), -13);
            due("another sort, ahead of outside", x -> x.sleepersBy(sort(of + 1), of, 40, 1), -13);
            due("another sort, of none", x -> x.sleepersBy(sort(of + 1), of, 0, 0), -13);
        }
        for (int from : new int[] {-1, -2, 3, 4, 40, MIN, MIN + 1, MAX, MAX - 1}) {
            due("outside " + from, x -> x.sleepersBy(0, 2, from, 1), -12);
            due("outside " + from, x -> x.sleepersBy(0, 2, from, 6), -12);
        }
    }

    /** The sheet of the stage that is of a sort (round). */
    private static int sort(int of) {
        return new int[] {1, 2, 0}[of % 3];
    }

    private static void taken() {
        promise(39);
        for (int kind : new int[] {-1, 7, MIN, MAX}) {
            due("kind " + kind, x -> x.taken(0, kind), -2);
            due("kind, ahead of the place", x -> x.taken(12, kind), -2);
            due("kind, ahead of none such", x -> x.taken(3, kind), -2);
        }
        for (int i : new int[] {-1, 12, MIN, MAX}) {
            due("place " + i, x -> x.taken(i, 0), -12);
            due("place " + i, x -> x.taken(i, 6), -12);
        }
        for (int i = 3; i < 6; i++) {
            for (int kind = 0; kind < 7; kind++) {
                int place = i;
                int of = kind;
                due("none such", x -> x.taken(place, of), -11);
                due("none such", x -> x.taken(6 + place, of), -11);
            }
        }
        // 0 is a BABY, 1 a GIRL, 2 an OLD
        int[][] wrong = {{0, 2}, {0, 3}, {0, 4}, {0, 5}, {0, 6}, {1, 2}, {1, 4}, {1, 5}, {1, 6}, {2, 1}, {2, 3}, {2, 4}, {2, 5}, {2, 6}};
        for (int[] one : wrong) {
            due(one[0] + " is no " + one[1], x -> x.taken(one[0], one[1]), -13);
        }
        for (int kind = 0; kind < 6; kind++) {
            int of = kind;
            due("wool is no sleeper", x -> x.taken(6, of), -13);
            due("wool is no sleeper", x -> x.taken(8, of), -13);
        }
    }

    private static void asksOfState() {
        CHECK.at("what is asked changes nothing");
        before = NOTHING;
        for (int what = 0; what < 6; what++) {
            int of = what;
            asked("count", x -> x.count(of));
            asked("asks", x -> x.asks(of % 3, of / 2));
            asked("taken", x -> x.taken(of, 0));
            asked("taken, wool", x -> x.taken(6 + of, 6));
        }
        for (int what = 0; what < 11; what++) {
            int of = what;
            asked("told", x -> x.told(0, of));
        }
        asked("told, a stitch", x -> x.told(0, 24));
        asked("none comes by 0", x -> x.sleepersBy(0, 2, 0, 0));
        asked("copy of none", x -> x.copy(0, 0, 0, 4, 0));
        asked("copy to where it is", x -> x.copy(1, 0, 1, 0, 21));
        asked("flood as it is", x -> x.flood(9, 1));
        asked("dusk as it is", x -> x.dusk(8));
        asked("the law as it is", x -> x.force(2));
        asked("the same stitch", x -> x.darn(0, 2, 2));
    }

    private static void asksOfNights() {
        CHECK.at("what is asked changes nothing");
        for (int what : new int[] {0, 1, 2, 10, 11, 12, 20, 21, 22}) {
            asked("run", x -> x.run(40, what));
        }
        for (int what = -2; what < 3; what++) {
            int of = what;
            asked("track", x -> x.track(40, of));
        }
        asked("comes", x -> x.comes(0, 63));
        asked("meet", x -> x.meet(0, 1));
        for (int what = 0; what < 2; what++) {
            int of = what;
            asked("alike", x -> x.alike(0, 1, of));
            asked("anew", x -> x.anew(0, 63, 20, of));
            asked("drain", x -> x.drain(20, of));
            asked("turn", x -> x.turn(0, 40, of));
            asked("share", x -> x.share(40, of));
            asked("drawn", x -> x.drawn(99999, of));
            asked("odds", x -> x.odds(99999, 40, 9, of));
        }
    }

    private static void asksOfToldNights() {
        CHECK.at("what is asked changes nothing");
        for (int p = 0; p < 3; p++) {
            int of = p;
            asked("judge", x -> x.judge(0, of));
            asked("kinds", x -> x.kinds(0, of, 0));
            asked("kinds, more", x -> x.kinds(2, of, 1));
            asked("begins", x -> x.begins(2, of));
            asked("ways", x -> x.ways(0, of, 1));
            asked("ways, stitches", x -> x.ways(2, of, 2));
            asked("laws", x -> x.laws(0, of));
        }
        asked("whose", x -> x.whose(0));
        before = x -> {
            x.put(0, 0, 5);
            x.force(1);
        };
        asked("whose", x -> x.whose(2));
        asked("kinds that fit", x -> x.kinds(2, 0, 0));
        asked("laws that fit", x -> x.laws(2, 0));
    }
}
