/** Random runs of calls (the same each time) against Model. */
public final class ModelTest {
    private static final Check CHECK = new Check();
    private static long lot;

    private static int lot(int bound) {
        lot = lot * 6364136223846793005L + 1442695040888963407L;
        return (int) ((lot >>> 33) % bound);
    }

    /** Mostly a number from 0 till below the bound, now and then one about it or far off. */
    private static int near(int bound) {
        int kind = lot(40);
        if (kind == 0) {
            return -1 - lot(2);
        }
        if (kind == 1) {
            return bound + lot(2);
        }
        if (kind == 2) {
            return lot(8) == 0 ? new int[] {Integer.MIN_VALUE, Integer.MAX_VALUE, Integer.MAX_VALUE - 1, 1 << 30}[lot(4)] : bound - 1;
        }
        return lot(Math.max(1, bound));
    }

    private static final String[] BITS = {
        "goes", "minds", "wears", "or", "and", "not", "stitch", "column", "row", "wet", "wool", "more",
        "(", ")", ";", "+", "-", "*", "<", "=", " ", "\n", "1", "23", "0456", "12345", "x", "goe", "#", "\t",
    };

    private static String one(int deep) {
        switch (lot(deep > 5 ? 3 : 6)) {
            case 0: case 1: return BITS[6 + lot(6)];
            case 2: return String.valueOf(lot(30));
            case 3: return "-" + (lot(2) == 0 ? " " : "") + one(deep + 1);
            default: return "(" + either(deep + 1) + ")";
        }
    }

    private static String sum(int deep) {
        String s = one(deep);
        for (int k = lot(3); k > 0; k--) {
            s += (lot(2) == 0 ? " " : "") + "+-*".charAt(lot(3)) + one(deep);
        }
        return s;
    }

    private static String either(int deep) {
        switch (lot(8)) {
            case 0: return sum(deep) + " < " + sum(deep);
            case 1: return sum(deep) + " = " + sum(deep);
            case 2: return "not " + either(deep + 1);
            case 3: return sum(deep) + " and " + either(deep + 1);
            case 4: return sum(deep) + " or " + either(deep + 1);
            default: return sum(deep);
        }
    }

    /** A text, most times well made, now and then with a bit too much, a bit too little, or of bits alone. */
    private static String text() {
        if (lot(6) == 0) {
            String s = "";
            for (int k = lot(12); k > 0; k--) {
                s += BITS[lot(BITS.length)] + (lot(2) == 0 ? " " : "");
            }
            return lot(2) == 0 ? "goes " + s : s;
        }
        String s = "goes " + either(lot(4)) + ";minds " + either(lot(4)) + " ;\nwears " + either(lot(4)) + " ; ";
        int place = lot(s.length());
        switch (lot(6)) {
            case 0: return s.substring(0, place) + BITS[lot(BITS.length)] + s.substring(place);
            case 1: return s.substring(0, place) + s.substring(Math.min(s.length(), place + 1 + lot(3)));
            case 2: return s.substring(0, place);
            default: return s;
        }
    }

    private static void feedText(BedsocksKeepRoads x, Model m) {
        String s = text();
        for (int i = 0; i < s.length(); i += 5) {
            int n = Math.min(5, s.length() - i);
            int[] b = new int[5];
            for (int k = 0; k < n; k++) {
                b[k] = s.charAt(i + k);
            }
            CHECK.due("feed of " + s, x.feed(n, b[0], b[1], b[2], b[3], b[4]), m.feed(n, b[0], b[1], b[2], b[3], b[4]));
        }
        CHECK.due("text of " + s, x.text(), m.text());
    }

    private static int ofTold() {
        return lot(3) == 0 ? 20 + near(16) : near(12);
    }

    private static int ofRun() {
        return lot(2) == 0 ? near(3) : 10 * (1 + lot(2)) + near(7);
    }

    private static void changes(BedsocksKeepRoads x, Model m) {
        int a = near(6), b = near(64), c = near(5), d = near(40), e = near(4), f = near(16);
        switch (lot(26)) {
            case 0: CHECK.due("dusk", x.dusk(b * 16), m.dusk(b * 16)); break;
            case 1: case 2: {
                int is = lot(3) == 0 ? c : 1;
                CHECK.due("flood", x.flood(b, is), m.flood(b, is));
                break;
            }
            case 3: {
                int n = near(6), v = near(256);
                CHECK.due("feed", x.feed(n, 32, v, 32, 32, v), m.feed(n, 32, v, 32, 32, v));
                break;
            }
            case 4: feedText(x, m); break;
            case 5: CHECK.due("text", x.text(), m.text()); break;
            case 6: case 7: CHECK.due("force", x.force(a), m.force(a)); break;
            case 8: case 9: {
                int kindMore = near(60), cellWay = 10 * b + e;
                CHECK.due("sleeper", x.sleeper(kindMore, cellWay), m.sleeper(kindMore, cellWay));
                break;
            }
            case 10: case 11: {
                int v = c == 0 ? b : c == 1 ? e : c == 2 ? f : near(100);
                CHECK.due("put", x.put(a, c, v), m.put(a, c, v));
                break;
            }
            case 12: case 13: case 14: CHECK.due("knit", x.knit(e, a), m.knit(e, a)); break;
            case 15: CHECK.due("darn", x.darn(a, f, c), m.darn(a, f, c)); break;
            case 16: CHECK.due("night", x.night(), m.night()); break;
            case 17: case 18: {
                int n = near(21);
                CHECK.due("film", x.film(e, a, n), m.film(e, a, n));
                break;
            }
            case 19: if (lot(3) == 0) { CHECK.due("image", x.image(), m.image()); } break;
            case 20: if (lot(3) == 0) { CHECK.due("back", x.back(), m.back()); } break;
            case 21: {
                int sort = near(4) - 1, n = lot(2) == 0 ? f : d;
                CHECK.due("sheet", x.sheet(e, sort, n), m.sheet(e, sort, n));
                break;
            }
            case 22: {
                int v = lot(2) == 0 ? c : near(64) + 256 * near(3) + 65536 * near(3);
                CHECK.due("cell", x.cell(e, f, v), m.cell(e, f, v));
                break;
            }
            case 23: {
                int other = near(4), j = near(10), n = near(12);
                CHECK.due("copy", x.copy(e, f, other, j, n), m.copy(e, f, other, j, n));
                break;
            }
            case 24: sock(x, m, e, a); break;
            default: {
                int sort = lot(3), n = near(7), from = near(4), asked = lot(9) == 0 ? c : sort;
                sleeperRow(x, m, e, sort);
                CHECK.due("sleepersBy", x.sleepersBy(e, asked, from, n), m.sleepersBy(e, asked, from, n));
                break;
            }
        }
    }

    private static void sock(BedsocksKeepRoads x, Model m, int s, int p) {
        int n = 1 + lot(lot(2) == 0 ? 16 : 4);
        x.sheet(s, 0, n);
        m.sheet(s, 0, n);
        for (int i = 0; i < n; i++) {
            int v = lot(3) == 0 ? lot(5) : 0;
            x.cell(s, i, v);
            m.cell(s, i, v);
        }
        CHECK.due("knit", x.knit(s, p), m.knit(s, p));
    }

    private static void sleeperRow(BedsocksKeepRoads x, Model m, int s, int sort) {
        x.sheet(s, sort, 12);
        m.sheet(s, sort, 12);
        for (int i = 0; i < 12; i += 2) {
            int kindMore = near(60), cellWay = lot(3) == 0 ? near(128) : 10 * near(64) + near(4);
            x.cell(s, i, kindMore);
            m.cell(s, i, kindMore);
            x.cell(s, i + 1, cellWay);
            m.cell(s, i + 1, cellWay);
        }
    }

    private static void asks(BedsocksKeepRoads x, Model m) {
        int a = near(6), q = near(6), c = near(64), two = near(2), three = near(3), n20 = near(21), n40 = near(41), s = near(4);
        int told = ofTold(), run = ofRun(), kind = near(7), counted = near(6);
        CHECK.due("count", x.count(counted), m.count(counted));
        CHECK.due("asks", x.asks(three, a), m.asks(three, a));
        CHECK.due("told", x.told(a, told), m.told(a, told));
        switch (lot(20)) {
            case 0: CHECK.due("run " + run, x.run(n40, run), m.run(n40, run)); break;
            case 1: CHECK.due("track", x.track(n40, q - 2), m.track(n40, q - 2)); break;
            case 2: CHECK.due("comes", x.comes(a, c), m.comes(a, c)); break;
            case 3: CHECK.due("meet", x.meet(a, q), m.meet(a, q)); break;
            case 4: CHECK.due("alike", x.alike(a, q, two), m.alike(a, q, two)); break;
            case 5: CHECK.due("anew", x.anew(a, c, n20, two), m.anew(a, c, n20, two)); break;
            case 6: CHECK.due("drain", x.drain(n20, two), m.drain(n20, two)); break;
            case 7: CHECK.due("turn", x.turn(a, n40, two), m.turn(a, n40, two)); break;
            case 8: CHECK.due("share", x.share(n40, two), m.share(n40, two)); break;
            case 9: case 10: CHECK.due("judge", x.judge(s, a), m.judge(s, a)); break;
            case 11: CHECK.due("kinds", x.kinds(s, a, two), m.kinds(s, a, two)); break;
            case 12: CHECK.due("begins", x.begins(s, a), m.begins(s, a)); break;
            case 13: CHECK.due("ways", x.ways(s, a, two + 1), m.ways(s, a, two + 1)); break;
            case 14: CHECK.due("whose", x.whose(s), m.whose(s)); break;
            case 15: CHECK.due("laws", x.laws(s, a), m.laws(s, a)); break;
            case 16: {
                int seed = near(100000);
                CHECK.due("drawn", x.drawn(seed, two), m.drawn(seed, two));
                break;
            }
            case 17: {
                int seed = near(100000), least = near(lot(2) == 0 ? 1000 : 100);
                CHECK.due("odds", x.odds(seed, n40, least, two), m.odds(seed, n40, least, two));
                break;
            }
            case 18: CHECK.due("taken", x.taken(q + 6 * two, kind), m.taken(q + 6 * two, kind)); break;
            default: CHECK.due("track -2", x.track(n40, -2), m.track(n40, -2)); break;
        }
    }

    public static void main(String[] args) {
        int runs = args.length > 0 ? Integer.parseInt(args[0]) : 600;
        for (int run = 0; run < runs; run++) {
            lot = run * 1000003L + 17;
            CHECK.at("run " + run);
            BedsocksKeepRoads x = new BedsocksKeepRoads();
            Model m = new Model();
            for (int k = 0; k < 60; k++) {
                changes(x, m);
                asks(x, m);
            }
        }
        CHECK.end();
    }
}
