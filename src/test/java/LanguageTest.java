import java.lang.reflect.Field;
import java.lang.reflect.Method;
import java.lang.reflect.Modifier;
import java.nio.file.Files;
import java.nio.file.Path;
import java.util.List;
import java.util.Set;
import java.util.TreeSet;
import java.util.regex.Matcher;
import java.util.regex.Pattern;

/** What of the rules for the program's Java can be seen in its words and by reflection. */
public final class LanguageTest {
    private static final Check CHECK = new Check();

    private static final String FACE = "alike(int,int,int):int anew(int,int,int,int):int asks(int,int):int back():int begins(int,int):long "
        + "cell(int,int,int):int comes(int,int):int copy(int,int,int,int,int):int count(int):int darn(int,int,int):int drain(int,int):int "
        + "drawn(int,int):int dusk(int):int feed(int,int,int,int,int,int):int film(int,int,int):int flood(int,int):int force(int):int "
        + "image():int judge(int,int):int kinds(int,int,int):int knit(int,int):int laws(int,int):int meet(int,int):int night():int "
        + "odds(int,int,int,int):long put(int,int,int):int run(int,int):int share(int,int):long sheet(int,int,int):int sleeper(int,int):int "
        + "sleepersBy(int,int,int,int):int taken(int,int):int text():int told(int,int):int track(int,int):long turn(int,int,int):int "
        + "ways(int,int,int):int whose(int):int";

    public static void main(String[] args) throws Exception {
        String source = Files.readString(Path.of("src/main/java/BedsocksKeepRoads.java"));
        String code = withoutComments(source);
        CHECK.at("rules 2, 4, 5, 6, 13: words");
        for (String word : List.of("throw", "throws", "try", "catch", "synchronized", "assert", "finally", "package", "native", "volatile", "double", "float")) {
            CHECK.due(word, count(code, "\\b" + word + "\\b"), 0);
        }
        for (String sign : List.of("->", "::", "static\\s*\\{", "\\bThread\\b", "\\bSystem\\.(?!arraycopy)", "\\w+Exact\\b", "@Override", "\\bvar\\b")) {
            CHECK.due(sign, count(code, sign), 0);
        }
        Matcher imports = Pattern.compile("import ([^;]+);").matcher(code);
        while (imports.find()) {
            CHECK.due("import " + imports.group(1), List.of("java.util.Arrays", "java.util.ArrayList", "java.util.List", "java.util.Iterator").contains(imports.group(1)) ? 1 : 0, 1);
        }
        CHECK.at("rule 3: signs");
        CHECK.due("signs above 127", count(source, "[^\\x00-\\x7f]"), 0);
        face();
        classes();
        methodsAreShort(source);
        callsMakeNothing(code);
        CHECK.end();
    }

    private static String withoutComments(String source) {
        return source.replaceAll("(?s)/\\*.*?\\*/", " ").replaceAll("//[^\n]*", " ");
    }

    private static int count(String text, String pattern) {
        Matcher m = Pattern.compile(pattern).matcher(text);
        int found = 0;
        while (m.find()) {
            found++;
        }
        return found;
    }

    private static void face() {
        CHECK.at("rule 1: the face");
        Class<?> main = BedsocksKeepRoads.class;
        Set<String> shown = new TreeSet<>();
        for (Method m : main.getDeclaredMethods()) {
            if (Modifier.isPublic(m.getModifiers())) {
                StringBuilder one = new StringBuilder(m.getName()).append("(");
                for (Class<?> type : m.getParameterTypes()) {
                    one.append(one.charAt(one.length() - 1) == '(' ? "" : ",").append(type.getName());
                }
                shown.add(one.append("):").append(m.getReturnType().getName()).toString());
            } else {
                CHECK.due(m.getName() + " is private", Modifier.isPrivate(m.getModifiers()) ? 1 : 0, 1);
            }
        }
        CHECK.due("the face's methods", String.join(" ", shown).equals(FACE) ? 1 : 0, 1);
        CHECK.due("constructors", main.getDeclaredConstructors().length, 1);
        CHECK.due("final", Modifier.isFinal(main.getModifiers()) ? 1 : 0, 1);
        for (Field f : main.getDeclaredFields()) {
            boolean constant = List.of("NONE", "BAD", "STATE", "FULL", "NO").contains(f.getName());
            CHECK.due(f.getName() + " is shown", Modifier.isPublic(f.getModifiers()) ? 1 : 0, constant ? 1 : 0);
            CHECK.due(f.getName() + " is private", Modifier.isPrivate(f.getModifiers()) ? 1 : 0, constant ? 0 : 1);
        }
    }

    private static void classes() {
        CHECK.at("rules 1, 2, 5, 11: classes");
        Set<String> publicNames = new TreeSet<>();
        for (Method m : BedsocksKeepRoads.class.getDeclaredMethods()) {
            if (Modifier.isPublic(m.getModifiers())) {
                publicNames.add(m.getName());
            }
        }
        Class<?>[] inside = BedsocksKeepRoads.class.getDeclaredClasses();
        CHECK.due("some twelve classes", inside.length < 12 ? 1 : 0, 1);
        for (Class<?> c : inside) {
            CHECK.due(c.getName() + " is static", Modifier.isStatic(c.getModifiers()) ? 1 : 0, 1);
            oneClass(c);
            for (Method m : c.getDeclaredMethods()) {
                CHECK.due(m.getName() + " bears a public one's name", publicNames.contains(m.getName()) ? 1 : 0, 0);
            }
        }
        oneClass(BedsocksKeepRoads.class);
        for (Method m : BedsocksKeepRoads.class.getDeclaredMethods()) {
            if (!Modifier.isPublic(m.getModifiers())) {
                CHECK.due(m.getName() + " bears a public one's name", publicNames.contains(m.getName()) ? 1 : 0, 0);
            }
        }
    }

    private static void oneClass(Class<?> c) {
        int fields = 0;
        for (Field f : c.getDeclaredFields()) {
            if (Modifier.isStatic(f.getModifiers())) {
                CHECK.due(f.getName() + " is final", Modifier.isFinal(f.getModifiers()) ? 1 : 0, 1);
            } else {
                fields++;
            }
        }
        CHECK.due(c.getName() + " has some twenty fields", fields <= 20 ? 1 : 0, 1);
        for (Method m : c.getDeclaredMethods()) {
            CHECK.due(m.getName() + " has seven parameters at most", m.getParameterCount() <= 7 ? 1 : 0, 1);
        }
    }

    private static void methodsAreShort(String source) {
        CHECK.at("rule 11: short methods");
        String[] lines = source.split("\n");
        for (int i = 0; i < lines.length; i++) {
            Matcher head = Pattern.compile("( {4}| {8})(?! )[^;]*\\([^;]*\\) \\{").matcher(lines[i]);
            if (!head.matches() || lines[i].contains(" class ")) {
                continue;
            }
            int end = i;
            while (end < lines.length && !lines[end].equals(head.group(1) + "}")) {
                end++;
            }
            CHECK.due("sixty lines at most from line " + (i + 1), end - i <= 60 ? 1 : 0, 1);
        }
    }

    /** What an object needs is made with it, so that no number of calls fills the room that all runs share. */
    private static void callsMakeNothing(String code) {
        CHECK.at("rule 12: what a run makes");
        String type = "(?!public |private |static )[\\w\\[\\]]+";
        Pattern method = Pattern.compile("( {4}| {8})(public |private |static )*" + type + " \\w+\\([^;]*\\) \\{");
        String[] lines = code.split("\n");
        int methods = 0;
        for (int i = 0; i < lines.length; i++) {
            Matcher head = method.matcher(lines[i]);
            if (!head.matches()) {
                continue;
            }
            methods++;
            for (int j = i; j < lines.length && !lines[j].equals(head.group(1) + "}"); j++) {
                CHECK.due("something new in [" + lines[j] + "]", count(lines[j], "\\bnew\\b|clone\\(|copyOf|toCharArray|substring"), 0);
            }
        }
        CHECK.due("all methods were looked at", methods, methodsOf(BedsocksKeepRoads.class));
    }

    private static int methodsOf(Class<?> c) {
        int methods = 0;
        for (Method m : c.getDeclaredMethods()) {
            methods += m.isSynthetic() ? 0 : 1;
        }
        for (Class<?> inside : c.getDeclaredClasses()) {
            methods += methodsOf(inside);
        }
        return methods;
    }
}
