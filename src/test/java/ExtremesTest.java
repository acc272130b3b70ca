import java.lang.reflect.Method;
import java.lang.reflect.Modifier;
import java.util.ArrayList;
import java.util.Comparator;
import java.util.List;

/**
 * Every call of the face with numbers at, about and far beyond its bounds, in some states (of none, of
 * six, at NIGHT 999, in land all WATER), each answer held against Model's, and all that can be told behind it.
 */
public final class ExtremesTest {
    private static final Check CHECK = new Check();
    private static final int MIN = Integer.MIN_VALUE, MAX = Integer.MAX_VALUE;
    private static final int CALLS = 400;

    private static BedsocksKeepRoads x;
    private static Model m;
    private static int calls;
    private static long lot = 12345;

    private static int lot(int bound) {
        lot = lot * 6364136223846793005L + 1442695040888963407L;
        return (int) ((lot >>> 33) % bound);
    }

    /** The numbers that calls are called with: each bound of the document, one less and one more, and the int's ends. */
    private static final int[] NUMBERS = {
        MIN, MIN + 1, -65536, -257, -100, -10, -3, -2, -1, 0, 1, 2, 3, 4, 5, 6, 7, 8, 9, 10, 11, 12, 13, 15, 16, 17, 19, 20, 21, 25, 26, 30,
        35, 36, 39, 40, 41, 59, 60, 61, 63, 64, 65, 99, 100, 128, 200, 255, 256, 257, 633, 634, 639, 640, 998, 999, 1000, 32768, 65536,
        99999, 100000, 100001, MAX - 1, MAX,
    };

    private static int ofNumbers() {
        return NUMBERS[lot(lot(3) == 0 ? NUMBERS.length : 20)];
    }

    private static long call(Method method, Object on, int[] numbers) throws Exception {
        Object[] given = new Object[numbers.length];
        for (int i = 0; i < given.length; i++) {
            given[i] = numbers[i];
        }
        return ((Number) method.invoke(on, given)).longValue();
    }

    private static long both(String name, int... numbers) throws Exception {
        Class<?>[] types = new Class<?>[numbers.length];
        java.util.Arrays.fill(types, int.class);
        long want = call(Model.class.getDeclaredMethod(name, types), m, numbers);
        StringBuilder said = new StringBuilder(name).append('(');
        for (int i = 0; i < numbers.length; i++) {
            said.append(i == 0 ? "" : ", ").append(numbers[i]);
        }
        CHECK.due(said.append(')').toString(), call(BedsocksKeepRoads.class.getMethod(name, types), x, numbers), want);
        calls++;
        return want;
    }

    private static void text(String text) throws Exception {
        for (int i = 0; i < text.length(); i++) {
            both("feed", 1, text.charAt(i), 0, 0, 0, 0);
        }
        both("text");
    }

    private static void row(int s, int sort, int... numbers) throws Exception {
        both("sheet", s, sort, numbers.length);
        for (int i = 0; i < numbers.length; i++) {
            both("cell", s, i, numbers[i]);
        }
    }

    private static void stage(int state) throws Exception {
        CHECK.at("state " + state);
        x = new BedsocksKeepRoads();
        m = new Model();
        calls = 0;
        if (state > 0) {
            text("goes 2 + more * 2;minds wet - row;wears 1 + column;");
            both("force", 1);
        }
        for (int p = 0; p < (state == 0 ? 0 : state == 1 ? 2 : 6); p++) {
            both("sleeper", 10 * ((p + state) % 6) + 9 - p, 10 * (9 * p + state) + (p + state) % 4);
        }
        row(0, 2, 0, 2, 0, 1, 4, 3, 1);
        for (int p = 0; p < 6; p += 2) {
            both("knit", 0, p);
            both("put", p, 2, p);
        }
        for (int c = state; c < 64; c += state == 4 ? 1 : 5) {
            both("flood", c, 1);
        }
        row(1, 0, 18, 19, 20);
        both("film", 2, 1, 3);
        if (state >= 3) {
            both("dusk", 999);
        }
        if (state != 2) {
            both("image");
        }
    }

    /** What a run of calls may have changed. */
    private static void held() throws Exception {
        for (int what = 0; what < 6; what++) {
            both("count", what);
        }
        both("track", 0, -2);
        int p = lot(6);
        for (int what = 0; what < 11; what++) {
            both("told", p, what);
        }
        both("told", p, 20 + lot(16));
        both("judge", lot(4), p);
    }

    private static void everyNumber(Method method, int state) throws Exception {
        int size = method.getParameterCount();
        stage(state);
        if (size == 0) {
            both(method.getName());
            held();
            return;
        }
        for (int place = 0; place < size; place++) {
            for (int number : NUMBERS) {
                int[] numbers = new int[size];
                for (int i = 0; i < size; i++) {
                    numbers[i] = lot(3);
                }
                numbers[place] = number;
                both(method.getName(), numbers);
                if (calls > CALLS) {
                    held();
                    stage(state);
                }
            }
        }
        held();
    }

    private static void numbersByLots(Method method, int state, int times) throws Exception {
        stage(state);
        for (int k = 0; k < times; k++) {
            int[] numbers = new int[method.getParameterCount()];
            for (int i = 0; i < numbers.length; i++) {
                numbers[i] = ofNumbers();
            }
            both(method.getName(), numbers);
            if (calls > CALLS) {
                held();
                stage(state);
            }
        }
        held();
    }

    private static List<Method> face() {
        List<Method> all = new ArrayList<>();
        for (Method method : BedsocksKeepRoads.class.getDeclaredMethods()) {
            if (Modifier.isPublic(method.getModifiers())) {
                all.add(method);
            }
        }
        all.sort(Comparator.comparing(Method::getName));
        return all;
    }

    public static void main(String[] args) throws Exception {
        for (Method method : face()) {
            for (int state = 0; state < 5; state++) {
                everyNumber(method, state);
                numbersByLots(method, state, 150);
            }
        }
        CHECK.end();
    }
}
