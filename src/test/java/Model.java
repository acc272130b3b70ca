import java.util.ArrayList;
import java.util.List;
import java.util.function.Function;

/**
 * The document once more, told naively: kinds as classes, texts as functions, every thought a copy of
 * the whole land. It shares no line with the program, so that a slip in one shows against the other.
 */
final class Model {
    static final long NO = -4611686018427387904L;

    static class Sleeper {
        int more, cell, way, next, wet, wool = 99;
        List<Integer> sock = new ArrayList<>(List.of(0));

        int kind() { return 0; }
        int that(Model m, int part) { return m.says(m.law, part, this); }
        int goes(Model m) { return wool == 0 ? 0 : that(m, 0); }
        int minds(Model m) { return that(m, 1); }
        int wears(Model m) { return that(m, 2); }
    }

    static class Baby extends Sleeper {
        int kind() { return 1; }
        int goes(Model m) { return super.goes(m) * 2 % (more + 1); }
        int minds(Model m) { return super.minds(m) + 10; }
    }

    static class Old extends Sleeper {
        int kind() { return 2; }
        int goes(Model m) { return Math.min(super.goes(m), 1 + wool / 10); }
        int wears(Model m) { return super.wears(m) + more; }
    }

    static class Girl extends Baby {
        int kind() { return 3; }
        int goes(Model m) { return super.goes(m) + 1; }
        int wears(Model m) { return m.night % 3 == 0 ? super.wears(m) : 0; }
    }

    static class Dead extends Old {
        int kind() { return 4; }
        int wears(Model m) { return 0; }
        int minds(Model m) { return wet > more ? super.minds(m) : 0; }
    }

    static class Priest extends Sleeper {
        int kind() { return 5; }
        int goes(Model m) { return Math.min(that(m, 0), more); }
        int wears(Model m) { return 2 * super.wears(m); }
    }

    static Sleeper ofKind(int kind) {
        Sleeper[] all = {new Sleeper(), new Baby(), new Old(), new Girl(), new Dead(), new Priest()};
        return all[kind];
    }

    static Sleeper like(Sleeper s, int kind) {
        Sleeper t = ofKind(kind);
        t.more = s.more;
        t.cell = s.cell;
        t.way = s.way;
        t.next = s.next;
        t.wet = s.wet;
        t.wool = s.wool;
        t.sock = new ArrayList<>(s.sock);
        return t;
    }

    // The state
    boolean[] water = new boolean[64];
    int night;
    List<Sleeper> sleepers = new ArrayList<>();
    List<List<Function<Sleeper, Integer>>> texts = new ArrayList<>();
    int law;
    StringBuilder tape = new StringBuilder();
    Object[] sheets = new Object[4];
    Model image;

    Model() {
        texts.add(List.of(s -> 4, s -> s.wet * 2, s -> 1));
    }

    Model thought() {
        Model m = new Model();
        m.water = water.clone();
        m.night = night;
        for (Sleeper s : sleepers) {
            m.sleepers.add(like(s, s.kind()));
        }
        m.texts = texts;
        m.law = law;
        return m;
    }

    // Texts
    static final class Fault extends RuntimeException {
        final int place;

        Fault(int place) {
            super(null, null, false, false);
            this.place = place;
        }
    }

    static final class Token {
        final String sign;
        final int place;

        Token(String sign, int place) {
            this.sign = sign;
            this.place = place;
        }
    }

    static final List<String> KEYS = List.of("goes", "minds", "wears", "or", "and", "not");
    static final List<String> NAMES = List.of("stitch", "column", "row", "wet", "wool", "more");

    /** All tokens; what is none is "?", which fits nowhere. */
    static List<Token> tokens(String text) {
        List<Token> found = new ArrayList<>();
        java.util.regex.Matcher m = java.util.regex.Pattern.compile("([a-z]+)|([0-9]+)|([();+*<=-])|([ \n]+)|(.)", java.util.regex.Pattern.DOTALL).matcher(text);
        while (m.find()) {
            String t = m.group();
            boolean wrong = m.group(5) != null || m.group(2) != null && t.length() > 4
                || m.group(1) != null && !KEYS.contains(t) && !NAMES.contains(t);
            if (m.group(4) == null) {
                found.add(new Token(wrong ? "?" : t, m.start()));
            }
        }
        found.add(new Token("", text.length()));
        return found;
    }

    static final class Parsing {
        final List<Token> tokens;
        int at;
        int open;

        Parsing(String text) {
            tokens = tokens(text);
        }

        boolean is(String sign) {
            return tokens.get(at).sign.equals(sign);
        }

        boolean skip(String sign) {
            if (is(sign)) {
                at++;
                return true;
            }
            return false;
        }

        Fault fault() {
            return new Fault(tokens.get(at).place);
        }

        void need(String sign) {
            if (!skip(sign)) {
                throw fault();
            }
        }

        void opens(String sign) {
            if (open == 5) {
                throw fault();
            }
            open++;
            need(sign);
        }

        List<Function<Sleeper, Integer>> text() {
            List<Function<Sleeper, Integer>> parts = new ArrayList<>();
            for (String key : List.of("goes", "minds", "wears")) {
                need(key);
                parts.add(e());
                need(";");
            }
            need("");
            return parts;
        }

        Function<Sleeper, Integer> e() {
            Function<Sleeper, Integer> a = and();
            while (skip("or")) {
                Function<Sleeper, Integer> l = a, r = and();
                a = s -> (l.apply(s) != 0) | (r.apply(s) != 0) ? 1 : 0;
            }
            return a;
        }

        Function<Sleeper, Integer> and() {
            Function<Sleeper, Integer> a = not();
            while (skip("and")) {
                Function<Sleeper, Integer> l = a, r = not();
                a = s -> (l.apply(s) != 0) & (r.apply(s) != 0) ? 1 : 0;
            }
            return a;
        }

        Function<Sleeper, Integer> not() {
            if (is("not")) {
                opens("not");
                Function<Sleeper, Integer> a = not();
                open--;
                return s -> a.apply(s) == 0 ? 1 : 0;
            }
            Function<Sleeper, Integer> l = sum();
            if (skip("<")) {
                Function<Sleeper, Integer> r = sum();
                return s -> l.apply(s).intValue() < r.apply(s).intValue() ? 1 : 0;
            }
            if (skip("=")) {
                Function<Sleeper, Integer> r = sum();
                return s -> l.apply(s).intValue() == r.apply(s).intValue() ? 1 : 0;
            }
            return l;
        }

        Function<Sleeper, Integer> sum() {
            Function<Sleeper, Integer> a = term();
            while (is("+") || is("-")) {
                boolean plus = is("+");
                at++;
                Function<Sleeper, Integer> l = a, r = term();
                a = plus ? s -> l.apply(s) + r.apply(s) : s -> l.apply(s) - r.apply(s);
            }
            return a;
        }

        Function<Sleeper, Integer> term() {
            Function<Sleeper, Integer> a = one();
            while (skip("*")) {
                Function<Sleeper, Integer> l = a, r = one();
                a = s -> l.apply(s) * r.apply(s);
            }
            return a;
        }

        Function<Sleeper, Integer> one() {
            String t = tokens.get(at).sign;
            if (is("-")) {
                opens("-");
                Function<Sleeper, Integer> a = one();
                open--;
                return s -> -a.apply(s);
            }
            if (is("(")) {
                opens("(");
                Function<Sleeper, Integer> a = e();
                need(")");
                open--;
                return a;
            }
            if (!t.isEmpty() && Character.isDigit(t.charAt(0))) {
                at++;
                return s -> Integer.parseInt(t);
            }
            int name = NAMES.indexOf(t);
            if (name < 0) {
                throw fault();
            }
            at++;
            return s -> new int[] {s.next, s.cell % 8, s.cell / 8, s.wet, s.wool, s.more}[name];
        }
    }

    int says(int t, int part, Sleeper s) {
        int said = texts.get(t).get(part).apply(s);
        int[][] bounds = {{0, 20}, {-99, 99}, {0, 99}};
        return Math.max(bounds[part][0], Math.min(bounds[part][1], said));
    }

    // Nights
    interface Come {
        void to(int p, int cell);
    }

    int pass(Come come) {
        int miles = 0;
        for (int p = 0; p < sleepers.size(); p++) {
            Sleeper s = sleepers.get(p);
            int goes = Math.max(0, s.goes(this)), wears = Math.max(0, s.wears(this));
            for (int k = 0; k < goes; k++) {
                int stitch = s.sock.get(s.next);
                s.next = (s.next + 1) % s.sock.size();
                if (stitch == 3) {
                    break;
                }
                s.way = new int[] {s.way, (s.way + 3) % 4, (s.way + 1) % 4, 0, s.way}[stitch];
                int column = s.cell % 8 + new int[] {1, 0, -1, 0}[s.way];
                int row = s.cell / 8 + new int[] {0, 1, 0, -1}[s.way];
                if (column < 0 || column > 7 || row < 0 || row > 7) {
                    break;
                }
                if (water[8 * row + column] && stitch != 4) {
                    s.wet = Math.min(99, s.wet + 1);
                    break;
                }
                s.cell = 8 * row + column;
                miles++;
                come.to(p, s.cell);
            }
            s.wool = Math.max(0, s.wool - wears);
        }
        night++;
        return miles;
    }

    int passes(int n) {
        int miles = 0;
        for (int k = 0; k < n; k++) {
            miles += pass((p, c) -> { });
        }
        return miles;
    }

    int twos() {
        int twos = 0;
        for (Sleeper s : sleepers) {
            for (Sleeper t : sleepers) {
                twos += s != t && s.cell == t.cell ? 1 : 0;
            }
        }
        return twos / 2;
    }

    Sleeper s(int p) {
        return p >= 0 && p < sleepers.size() ? sleepers.get(p) : null;
    }

    static boolean in(int v, int least, int most) {
        return v >= least && v <= most;
    }

    // The calls
    int count(int what) {
        int wet = 0;
        for (boolean w : water) {
            wet += w ? 1 : 0;
        }
        int[] all = {sleepers.size(), wet, night, texts.size(), law, tape.length()};
        return in(what, 0, 5) ? all[what] : -2;
    }

    int dusk(int v) {
        if (!in(v, 0, 999)) {
            return -2;
        }
        int was = night;
        night = v;
        return was;
    }

    int flood(int c, int is) {
        if (!in(c, 0, 63)) {
            return -5;
        }
        if (!in(is, 0, 1)) {
            return -7;
        }
        int was = water[c] ? 1 : 0;
        water[c] = is == 1;
        return was;
    }

    int feed(int n, int a, int b, int c, int d, int e) {
        int[] bytes = {a, b, c, d, e};
        for (int x : bytes) {
            if (!in(x, 0, 255)) {
                return -2;
            }
        }
        if (!in(n, 1, 5)) {
            return -2;
        }
        if (tape.length() + n > 160) {
            return -4;
        }
        for (int i = 0; i < n; i++) {
            tape.append((char) bytes[i]);
        }
        return tape.length();
    }

    int text() {
        if (texts.size() == 6) {
            return -4;
        }
        String text = tape.toString();
        tape.setLength(0);
        try {
            texts.add(new Parsing(text).text());
            return texts.size() - 1;
        } catch (Fault fault) {
            return -100 - fault.place;
        }
    }

    int force(int t) {
        if (!in(t, 0, texts.size() - 1)) {
            return -2;
        }
        int was = law;
        law = t;
        return was;
    }

    int asks(int part, int p) {
        return s(p) == null || !in(part, 0, 2) ? -1000 : says(law, part, s(p));
    }

    int sleeper(int kindMore, int cellWay) {
        if (!in(kindMore, 0, 59) || !in(cellWay, 0, 639) || cellWay % 10 > 3) {
            return -2;
        }
        if (sleepers.size() == 6) {
            return -4;
        }
        Sleeper s = ofKind(kindMore / 10);
        s.more = kindMore % 10;
        s.cell = cellWay / 10;
        s.way = cellWay % 10;
        sleepers.add(s);
        return sleepers.size() - 1;
    }

    int put(int p, int what, int v) {
        Sleeper s = s(p);
        if (s == null) {
            return -5;
        }
        if (!in(what, 0, 4) || !in(v, 0, new int[] {63, 3, s.sock.size() - 1, 99, 99}[what])) {
            return -7;
        }
        int was = told(p, what);
        switch (what) {
            case 0 -> s.cell = v;
            case 1 -> s.way = v;
            case 2 -> s.next = v;
            case 3 -> s.wet = v;
            default -> s.wool = v;
        }
        return was;
    }

    int told(int p, int what) {
        Sleeper s = s(p);
        if (s == null) {
            return -5000;
        }
        if (in(what, 20, 19 + s.sock.size())) {
            return s.sock.get(what - 20);
        }
        int[] all = {s.cell, s.way, s.next, s.wet, s.wool, s.kind(), s.more, s.goes(this), s.minds(this), s.wears(this), s.sock.size()};
        return in(what, 0, 10) ? all[what] : -7000;
    }

    int refusal(int s) {
        return !in(s, 0, 3) ? -2 : sheets[s] == null ? -11 : 0;
    }

    int size(int s) {
        return java.lang.reflect.Array.getLength(sheets[s]);
    }

    int number(int s, int i) {
        return ((Number) java.lang.reflect.Array.get(sheets[s], i)).intValue();
    }

    int knit(int s, int p) {
        if (refusal(s) != 0) {
            return refusal(s);
        }
        List<Integer> sock = new ArrayList<>();
        for (int i = 0; i < size(s); i++) {
            sock.add(number(s, i));
        }
        if (!in(sock.size(), 1, 16) || !sock.stream().allMatch(v -> in(v, 0, 4))) {
            return -2;
        }
        if (s(p) == null) {
            return -5;
        }
        s(p).sock = sock;
        s(p).next = 0;
        return sock.size();
    }

    int darn(int p, int k, int stitch) {
        if (s(p) == null) {
            return -5;
        }
        return !in(k, 0, s(p).sock.size() - 1) || !in(stitch, 0, 4) ? -7 : s(p).sock.set(k, stitch);
    }

    int night() {
        return night == 999 ? -3 : passes(1);
    }

    int run(int n, int what) {
        boolean known = in(what, 0, 2) || in(what, 10, 9 + sleepers.size()) || in(what, 20, 19 + sleepers.size());
        if (!in(n, 0, 40) || !known) {
            return -100000;
        }
        Model m = thought();
        int miles = m.passes(n);
        if (what == 1) {
            return m.sleepers.stream().mapToInt(s -> s.minds(m)).sum();
        }
        return what == 0 ? miles : what == 2 ? m.twos() : what < 20 ? m.s(what - 10).cell : m.s(what - 20).wet;
    }

    long track(int n, int what) {
        long[] bits = new long[1];
        if (what == -2) {
            for (int c = 0; c < 64; c++) {
                bits[0] |= water[c] ? 1L << c : 0;
            }
            return bits[0];
        }
        if (!in(n, 0, 40) || !in(what, -1, sleepers.size() - 1)) {
            return NO;
        }
        Model m = thought();
        Come come = (p, c) -> bits[0] |= what == -1 || what == p ? 1L << c : 0;
        for (int p = 0; p < sleepers.size(); p++) {
            come.to(p, s(p).cell);
        }
        for (int k = 0; k < n; k++) {
            m.pass(come);
        }
        return bits[0];
    }

    int comes(int p, int c) {
        if (s(p) == null) {
            return -5;
        }
        if (!in(c, 0, 63)) {
            return -7;
        }
        Model m = thought();
        for (int k = 0; k <= 60; k++, m.passes(1)) {
            if (m.s(p).cell == c) {
                return k;
            }
        }
        return -1;
    }

    int meet(int p, int q) {
        if (s(p) == null || s(q) == null || p == q) {
            return -5;
        }
        Model m = thought();
        for (int k = 0; k <= 60; k++, m.passes(1)) {
            if (m.s(p).cell == m.s(q).cell) {
                return k;
            }
        }
        return -1;
    }

    int alike(int p, int q, int what) {
        if (s(p) == null || s(q) == null) {
            return -5;
        }
        if (!in(what, 0, 1)) {
            return -7;
        }
        List<Integer> a = s(p).sock, b = s(q).sock;
        if (what == 0) {
            int k = 0;
            while (k < 240 && a.get((s(p).next + k) % a.size()).equals(b.get((s(q).next + k) % b.size()))) {
                k++;
            }
            return k;
        }
        List<Integer> turned = new ArrayList<>(b);
        for (int by = 0; by < b.size(); by++) {
            if (turned.equals(a)) {
                return by;
            }
            turned.add(turned.remove(0));
        }
        return -1;
    }

    int far(Model m, int p, int c, int n) {
        m.passes(n);
        int d = m.s(p).cell;
        return Math.abs(d % 8 - c % 8) + Math.abs(d / 8 - c / 8);
    }

    int anew(int p, int c, int n, int what) {
        if (s(p) == null) {
            return -5;
        }
        if (!in(c, 0, 63) || !in(n, 0, 20) || !in(what, 0, 1)) {
            return -7;
        }
        int which = -1, best = far(thought(), p, c, n);
        for (int v = 0; v < 10 * s(p).sock.size(); v++) {
            if (v % 10 < 5) {
                Model m = thought();
                m.darn(p, v / 10, v % 10);
                int far = far(m, p, c, n);
                if (far < best) {
                    best = far;
                    which = v;
                }
            }
        }
        return what == 0 ? which : best;
    }

    int drain(int n, int what) {
        if (!in(n, 0, 20) || !in(what, 0, 1)) {
            return -2;
        }
        int which = -1, best = run(n, 0);
        for (int c = 0; c < 64; c++) {
            if (water[c]) {
                Model m = thought();
                m.flood(c, 0);
                int miles = m.passes(n);
                if (miles > best) {
                    best = miles;
                    which = c;
                }
            }
        }
        return what == 0 ? which : best;
    }

    int turn(int p, int n, int what) {
        if (s(p) == null) {
            return -5;
        }
        if (!in(n, 0, 40) || !in(what, 0, 1)) {
            return -7;
        }
        int which = -1, best = 1000;
        for (int way = 0; way < 4; way++) {
            Model m = thought();
            m.put(p, 1, way);
            m.passes(n);
            if (m.s(p).wet < best) {
                best = m.s(p).wet;
                which = way;
            }
        }
        return what == 0 ? which : best;
    }

    static long lowest(long a, long b, int part) {
        for (long d = b; d > 1; d--) {
            if (a % d == 0 && b % d == 0) {
                return lowest(a / d, b / d, part);
            }
        }
        return part == 0 ? a : b;
    }

    long share(int n, int part) {
        return !in(n, 0, 40) || !in(part, 0, 1) ? NO : lowest(Long.bitCount(track(n, -1)), 64, part);
    }

    int otherwise(int s, int p) {
        Model m = thought();
        for (int i = 0; i < size(s); i++) {
            m.passes(1);
            if (m.s(p).cell != number(s, i)) {
                return i;
            }
        }
        return -1;
    }

    int refusal(int s, int p, boolean ofOne) {
        if (refusal(s) != 0) {
            return refusal(s);
        }
        return size(s) > 20 ? -2 : ofOne && s(p) == null ? -5 : 0;
    }

    int judge(int s, int p) {
        return refusal(s, p, true) != 0 ? refusal(s, p, true) : otherwise(s, p);
    }

    interface Change {
        void of(Model m, int v);
    }

    long bits(int s, int p, int bound, Change change) {
        long bits = 0;
        for (int v = 0; v < bound; v++) {
            Model m = thought();
            change.of(m, v);
            m.sheets = sheets;
            bits |= m.otherwise(s, p) == -1 ? 1L << v : 0;
        }
        return bits;
    }

    int kinds(int s, int p, int sort) {
        if (refusal(s, p, true) != 0) {
            return refusal(s, p, true);
        }
        if (!in(sort, 0, 1)) {
            return -7;
        }
        return (int) (sort == 0 ? bits(s, p, 6, (m, v) -> m.sleepers.set(p, like(s(p), v))) : bits(s, p, 10, (m, v) -> m.s(p).more = v));
    }

    long begins(int s, int p) {
        return refusal(s, p, true) != 0 ? NO : bits(s, p, 64, (m, v) -> m.s(p).cell = v);
    }

    int ways(int s, int p, int sort) {
        if (refusal(s, p, true) != 0) {
            return refusal(s, p, true);
        }
        if (!in(sort, 1, 2)) {
            return -7;
        }
        return (int) (sort == 1 ? bits(s, p, 4, (m, v) -> m.s(p).way = v) : bits(s, p, s(p).sock.size(), (m, v) -> m.s(p).next = v));
    }

    int whose(int s) {
        if (refusal(s, 0, false) != 0) {
            return refusal(s, 0, false);
        }
        int bits = 0;
        for (int p = 0; p < sleepers.size(); p++) {
            bits |= otherwise(s, p) == -1 ? 1 << p : 0;
        }
        return bits;
    }

    int laws(int s, int p) {
        return refusal(s, p, true) != 0 ? refusal(s, p, true) : (int) bits(s, p, texts.size(), (m, v) -> m.law = v);
    }

    int film(int s, int p, int n) {
        if (!in(s, 0, 3)) {
            return -2;
        }
        if (s(p) == null) {
            return -5;
        }
        if (!in(n, 0, 20)) {
            return -7;
        }
        byte[] cells = new byte[n];
        for (int i = 0; i < n; i++) {
            cells[i] = (byte) run(i + 1, 10 + p);
        }
        sheets[s] = cells;
        return n;
    }

    int[] floods(int seed) {
        Model m = thought();
        long lot = (seed + 1L) * 48271 % 2147483647;
        int miles = 0;
        for (int k = 0; k < 8; k++, lot = lot * 48271 % 2147483647) {
            m.water[(int) (lot % 64)] = !m.water[(int) (lot % 64)];
            miles += m.passes(1);
        }
        return new int[] {miles, m.twos()};
    }

    int drawn(int seed, int what) {
        return !in(seed, 0, 99999) || !in(what, 0, 1) ? -2 : floods(seed)[what];
    }

    long odds(int seed, int seeds, int least, int part) {
        if (!in(seed, 0, 99999) || !in(seeds, 1, 40) || !in(least, 0, 999) || !in(part, 0, 1)) {
            return NO;
        }
        int above = 0;
        for (int k = seed; k < seed + seeds; k++) {
            above += floods(k)[0] >= least ? 1 : 0;
        }
        return lowest(above, seeds, part);
    }

    int image() {
        image = thought();
        return sleepers.size();
    }

    int back() {
        if (image == null) {
            return -3;
        }
        Model m = image.thought();
        water = m.water;
        night = m.night;
        sleepers = m.sleepers;
        law = m.law;
        return sleepers.size();
    }

    int sheet(int s, int sort, int n) {
        if (!in(s, 0, 3) || !in(sort, -1, 2) || sort != -1 && n > 40) {
            return -2;
        }
        if (sort != -1 && n < 0) {
            return -14;
        }
        sheets[s] = sort == -1 ? null : sort == 0 ? new byte[n] : sort == 1 ? new short[n] : new int[n];
        return 1;
    }

    int cell(int s, int i, int v) {
        if (refusal(s) != 0) {
            return refusal(s);
        }
        if (!in(i, 0, size(s) - 1)) {
            return -12;
        }
        if (sheets[s] instanceof byte[] b) {
            b[i] = (byte) v;
        } else if (sheets[s] instanceof short[] b) {
            b[i] = (short) v;
        } else {
            ((int[]) sheets[s])[i] = v;
        }
        return 1;
    }

    /** Here the machine's own throwing is the answer: System.arraycopy tells what the host tells. */
    int copy(int s, int i, int other, int j, int n) {
        if (!in(s, 0, 3) || !in(other, 0, 3)) {
            return -2;
        }
        try {
            System.arraycopy(sheets[s], i, sheets[other], j, n);
            return n;
        } catch (NullPointerException e) {
            return -11;
        } catch (ArrayStoreException e) {
            return -13;
        } catch (IndexOutOfBoundsException e) {
            return -12;
        }
    }

    int sleepersBy(int s, int sort, int from, int n) {
        if (!in(s, 0, 3) || !in(sort, 0, 2) || !in(n, 0, 6)) {
            return -2;
        }
        if (sheets[s] == null) {
            return -11;
        }
        if (sheets[s].getClass() != new Class<?>[] {byte[].class, short[].class, int[].class}[sort]) {
            return -13;
        }
        int came = 0;
        for (long k = 0; k < n; k++) {
            long place = from + 2 * k;
            if (place < 0 || place + 1 >= size(s)) {
                return -12;
            }
            came += sleeper(number(s, (int) place), number(s, (int) place + 1)) >= 0 ? 1 : 0;
        }
        return came;
    }

    int taken(int i, int kind) {
        if (!in(kind, 0, 6)) {
            return -2;
        }
        if (!in(i, 0, 11)) {
            return -12;
        }
        Object what = s(i % 6) == null ? null : i < 6 ? (Object) s(i) : (Object) Integer.valueOf(s(i - 6).wool);
        Class<?>[] all = {Sleeper.class, Baby.class, Old.class, Girl.class, Dead.class, Priest.class, Integer.class};
        if (what == null) {
            return -11;
        }
        return !all[kind].isInstance(what) ? -13 : kind == 6 ? (Integer) what : i;
    }
}
