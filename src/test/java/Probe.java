/**
 * All that can be seen of an object, in one line: two objects that tell the same line hold the same.
 * Asking uses the object up: sheets are read by way of sheet 3, the tape by making it a text.
 */
final class Probe {
    private final BedsocksKeepRoads x;
    private final StringBuilder seen = new StringBuilder();

    private Probe(BedsocksKeepRoads x) {
        this.x = x;
    }

    static String of(BedsocksKeepRoads x) {
        Probe probe = new Probe(x);
        probe.land();
        probe.texts();
        probe.sheets();
        probe.tape();
        probe.tell("back", x.back());
        probe.land();
        return probe.seen.toString();
    }

    private void tell(String name, long value) {
        seen.append(name).append(' ').append(value).append("; ");
    }

    private void land() {
        for (int what = 0; what < 6; what++) {
            tell("count " + what, x.count(what));
        }
        tell("water", x.track(0, -2));
        for (int p = 0; p < 6 && x.told(p, 0) >= 0; p++) {
            for (int what = 0; what < 11; what++) {
                tell(p + " told " + what, x.told(p, what));
            }
            for (int k = 0; k < x.told(p, 10); k++) {
                tell(p + " stitch " + k, x.told(p, 20 + k));
            }
        }
    }

    private void texts() {
        x.sleeper(0, 0);
        int texts = x.count(3);
        for (int t = 0; t < texts; t++) {
            x.force(t);
            for (int part = 0; part < 3; part++) {
                tell("text " + t + " part " + part, x.asks(part, 0));
            }
        }
    }

    /** Under a law by which nobody goes, one begins behind a night where the number says. */
    private void sheets() {
        int texts = x.count(3);
        for (int t = 0; t < texts; t++) {
            x.force(t);
            if (x.asks(0, 0) == 0) {
                break;
            }
        }
        tell("none goes", x.asks(0, 0));
        tell("sheet 3", x.cell(3, 0, 0));
        for (int s = 0; s < 3; s++) {
            for (int sort = 0; sort < 3; sort++) {
                if (x.sleepersBy(s, sort, 0, 0) == 0) {
                    numbers(s, sort);
                }
            }
        }
    }

    private void numbers(int s, int sort) {
        x.sheet(3, sort, 1);
        for (int i = 0; x.copy(s, i, 3, 0, 1) == 1; i++) {
            tell("sheet " + s + " of sort " + sort + " number " + i, x.begins(3, 0));
        }
    }

    private void tape() {
        tell("tape", x.count(5));
        if (x.count(5) < 100) {
            Check.feed(x, "minds 8;wears 9;");
        }
        tell("text", x.text());
        x.force(x.count(3) - 1);
        for (int part = 0; part < 3; part++) {
            tell("newest text, part " + part, x.asks(part, 0));
        }
    }
}
