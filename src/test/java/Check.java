/** What the tests share: counting what is otherwise, feeding texts, filling sheets. */
final class Check {
    private int asked;
    private int wrong;
    private String where = "";

    void at(String place) {
        where = place;
    }

    void due(String call, long got, long want) {
        asked++;
        if (got != want) {
            wrong++;
            if (wrong <= 40) {
                System.out.println(where + ": " + call + " answered " + got + ", due is " + want);
            }
        }
    }

    void end() {
        System.out.println(wrong == 0 ? asked + " answers are as due" : wrong + " of " + asked + " answers are not as due");
        if (wrong != 0 || asked == 0) {
            System.exit(1);
        }
    }

    static void feed(BedsocksKeepRoads x, String text) {
        for (int i = 0; i < text.length(); i += 5) {
            int n = Math.min(5, text.length() - i);
            int[] b = new int[5];
            for (int k = 0; k < n; k++) {
                b[k] = text.charAt(i + k);
            }
            x.feed(n, b[0], b[1], b[2], b[3], b[4]);
        }
    }

    static int text(BedsocksKeepRoads x, String text) {
        feed(x, text);
        return x.text();
    }

    static void row(BedsocksKeepRoads x, int s, int sort, int... numbers) {
        x.sheet(s, sort, numbers.length);
        for (int i = 0; i < numbers.length; i++) {
            x.cell(s, i, numbers[i]);
        }
    }

    static void sock(BedsocksKeepRoads x, int p, int... stitches) {
        row(x, 3, 0, stitches);
        x.knit(3, p);
        x.sheet(3, -1, 0);
    }
}
