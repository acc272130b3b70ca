import java.util.List;

/** The sentences of 'Terms' about texts: tokens, the grammar, where a FAULT's place lies, what an E is worth. */
public final class TextsTest {
    private static final Check CHECK = new Check();
    private static BedsocksKeepRoads x;

    private static void term(String sentence) {
        CHECK.at(sentence);
        x = new BedsocksKeepRoads();
    }

    private static void due(String call, long got, long want) {
        CHECK.due(call, got, want);
    }

    public static void main(String[] args) {
        firstText();
        lastSemicolon();
        everyTokenEverywhere();
        tokensAsLongAsCanBe();
        bytesThatBeginNone();
        wordsThatAreNone();
        numbersTooLong();
        blanks();
        endsTooEarly();
        firstFaultIsTold();
        fiveOpen();
        opensEnd();
        tapeOf160();
        tapeIsEmptyThen();
        faultyOnesLeaveNothing();
        textsAreNumbered();
        bindings();
        wrapping();
        truths();
        CHECK.end();
    }

    /** In a text of the test, @ stands where the fault is (and is not fed). */
    private static void fault(String marked) {
        x = new BedsocksKeepRoads();
        int place = marked.indexOf('@');
        String text = marked.substring(0, place) + marked.substring(place + 1);
        due("text() of [" + marked + "]", Check.text(x, text), -100 - place);
        due("the tape is empty then", x.count(5), 0);
        due("no text", x.count(3), 1);
    }

    private static void good(String text) {
        x = new BedsocksKeepRoads();
        due("text() of [" + text + "]", Check.text(x, text), 1);
        due("the tape is empty then", x.count(5), 0);
        due("a text", x.count(3), 2);
    }

    private static void firstText() {
        term("TEXT 0, at first, and THE LAW: goes 4 ; minds wet * 2 ; wears 1 ;");
        due("one text", x.count(3), 1);
        due("the law", x.count(4), 0);
        due("no byte of it on the tape", x.count(5), 0);
        x.sleeper(9, 633);
        for (int wet : new int[] {0, 1, 7, 49, 50, 99}) {
            x.put(0, 3, wet);
            due("goes", x.asks(0, 0), 4);
            due("minds", x.asks(1, 0), Math.min(99, 2 * wet));
            due("wears", x.asks(2, 0), 1);
        }
        due("it can be said again", Check.text(x, "goes 4 ; minds wet * 2 ; wears 1 ;"), 1);
        due("a text that says as much", Check.text(x, "goes 4;minds wet*2;wears 1;"), 2);
        for (int t = 1; t < 3; t++) {
            x.force(t);
            due("goes", x.asks(0, 0), 4);
            due("minds", x.asks(1, 0), 99);
            due("wears", x.asks(2, 0), 1);
        }
    }

    private static void lastSemicolon() {
        CHECK.at("TEXT: goes E ; minds E ; wears E ; : the ';' stands behind each part");
        good("goes 4 ; minds wet * 2 ; wears 1 ;");
        fault("goes 4 ; minds wet * 2 ; wears 1@");
        fault("goes 4 ; minds wet * 2 ; wears 1 @");
        fault("goes 4 ; minds wet * 2 @wears 1 ;");
        fault("goes 4 @minds wet * 2 ; wears 1 ;");
        fault("goes 4 ; minds wet * 2 ; wears 1 ; @;");
        fault("@; goes 4 ; minds wet * 2 ; wears 1 ;");
        fault("goes 4 ; @; minds wet * 2 ; wears 1 ;");
        fault("goes @; 4 ; minds wet * 2 ; wears 1 ;");
    }

    private static final List<String> KEYS = List.of("goes", "minds", "wears", "or", "and", "not");
    private static final List<String> NAMES = List.of("stitch", "column", "row", "wet", "wool", "more");
    private static final List<String> SIGNS = List.of("(", ")", ";", "+", "-", "*", "<", "=");
    private static final List<String> NONE = List.of("12345", "00000", "goe", "wett", "a", "?", ">", "!", ".", ",");

    private static final String ONES = "number name ( -", STARTS = "number name ( - not";

    /** A prefix, and what may stand behind it. */
    private static final String[][] PLACES = {
        {"", "goes"},
        {"goes", STARTS},
        {"goes 1", "* + - < = and or ;"},
        {"goes wet", "* + - < = and or ;"},
        {"goes - 1", "* + - < = and or ;"},
        {"goes ( 1 )", "* + - < = and or ;"},
        {"goes not 1", "* + - < = and or ;"},
        {"goes 1 * 2", "* + - < = and or ;"},
        {"goes 1 + 2", "* + - < = and or ;"},
        {"goes 1 < 2", "* + - and or ;"},
        {"goes 1 = 2", "* + - and or ;"},
        {"goes 1 = 2 * 3 - 4", "* + - and or ;"},
        {"goes not 1 < 2", "* + - and or ;"},
        {"goes ( 1 < 2 )", "* + - < = and or ;"},
        {"goes 1 < 2 and 3", "* + - < = and or ;"},
        {"goes 1 < 2 or 3", "* + - < = and or ;"},
        {"goes ( 1", "* + - < = and or )"},
        {"goes ( ( 1 )", "* + - < = and or )"},
        {"goes ( 1 < 2", "* + - and or )"},
        {"goes ( not 1", "* + - < = and or )"},
        {"goes (", STARTS},
        {"goes 1 *", ONES},
        {"goes 1 +", ONES},
        {"goes 1 -", ONES},
        {"goes 1 <", ONES},
        {"goes 1 =", ONES},
        {"goes -", ONES},
        {"goes - -", ONES},
        {"goes not", STARTS},
        {"goes not not", STARTS},
        {"goes 1 and", STARTS},
        {"goes 1 or", STARTS},
        {"goes 1 and not", STARTS},
        {"goes not -", ONES},
        {"goes 1 ;", "minds"},
        {"goes 1 ; minds", STARTS},
        {"goes 1 ; minds 2", "* + - < = and or ;"},
        {"goes 1 ; minds 2 ;", "wears"},
        {"goes 1 ; minds 2 ; wears", STARTS},
        {"goes 1 ; minds 2 ; wears 3", "* + - < = and or ;"},
        {"goes 1 ; minds 2 ; wears 3 ;", ""},
        {"goes ( ( ( ( (", "number name"},
        {"goes not not not not not", "number name"},
        {"goes - - - - -", "number name"},
        {"goes not ( not ( -", "number name"},
        {"goes ( ( ( (", STARTS},
        {"goes - - - -", ONES},
        {"goes ( ( ( ( ( 1", "* + - < = and or )"},
        {"goes ( ( ( ( ( 1 *", "number name"},
        {"goes ( ( ( ( ( 1 and", "number name"},
        {"goes ( ( ( ( ( 1 <", "number name"},
        {"goes ( ( ( ( ( 1 )", "* + - < = and or )"},
        {"goes ( ( ( ( ( 1 ) *", ONES},
        {"goes ( ( ( ( ( 1 ) and", STARTS},
        {"goes not not not not not 1 *", "number name"},
        {"goes not not not not not 1 <", "number name"},
        {"goes not not not not not 1 and", STARTS},
        {"goes - - - - - 1 *", ONES},
        {"goes - - - - - 1 and", STARTS},
    };

    private static boolean may(String allowed, String token) {
        String sort = NAMES.contains(token) ? "name" : Character.isDigit(token.charAt(0)) && token.length() < 5 ? "number" : token;
        return List.of(allowed.split(" ")).contains(sort);
    }

    private static void tokenBehind(String[] place, String token) {
        String text = place[0] + (place[0].isEmpty() ? "" : " ") + token;
        int ahead = text.length() - token.length();
        x = new BedsocksKeepRoads();
        boolean done = may(place[1], token) && token.equals(";") && place[0].contains("wears 3");
        int want = done ? 1 : -100 - (may(place[1], token) ? text.length() : ahead);
        due("text() of [" + text + "]", Check.text(x, text), want);
        due("with a blank behind [" + text + "]", Check.text(x, text + " "), done ? 2 : may(place[1], token) ? want - 1 : want);
        due("texts", x.count(3), done ? 3 : 1);
    }

    private static void everyTokenEverywhere() {
        CHECK.at("FAULT: the place of the first byte of the first TOKEN that can't stand there");
        for (String[] place : PLACES) {
            for (List<String> tokens : List.of(KEYS, NAMES, SIGNS, NONE, List.of("0", "7", "9999"))) {
                for (String token : tokens) {
                    tokenBehind(place, token);
                }
            }
        }
    }

    private static void tokensAsLongAsCanBe() {
        CHECK.at("TOKENS, each as long as can be");
        good("goes4;minds4;wears4;");
        good("goes(4)and(wet)or(1);minds-wet-4;wears not1;");
        good("goes 4or 5and 6;minds 1and wet;wears 12*34;");
        fault("@goeswet;");
        fault("goes @wetwool;");
        fault("goes @nota 1;");
        fault("goes not1or@;");
        fault("goes @andor;");
        fault("goes 1 @orwet;");
        fault("@go es 4;");
        fault("goes @w et;");
        fault("goes 12 @3;");
        fault("goes 1 @2;");
        fault("goes 4@minds 4;");
        fault("goes 1 <@= 2;");
        fault("goes 1 =@= 2;");
        fault("goes 1 <@< 2;");
        fault("goes 4;@;");
        fault("goes wet@1;");
        fault("goes 1@wet;");
    }

    private static void bytesThatBeginNone() {
        CHECK.at("also of a byte that begins none");
        for (int b = 0; b < 256; b++) {
            boolean letter = b >= 'a' && b <= 'z';
            boolean digit = b >= '0' && b <= '9';
            boolean sign = "();+-*<=".indexOf(b) >= 0;
            boolean blank = b == 32 || b == 10;
            if (letter || digit || sign || blank || b == '@') {
                continue;
            }
            String one = String.valueOf((char) b);
            fault("@" + one);
            fault("goes @" + one);
            fault("goes 4@" + one + ";minds 1;wears 1;");
            fault("goes 4;minds 1;wears 1;@" + one);
            fault("goes wet@" + one + "row;");
            fault("goes @we" + one + "t;");
        }
        x = new BedsocksKeepRoads();
        Check.feed(x, "goes ");
        x.feed(1, '@', 0, 0, 0, 0);
        due("an @ begins none", x.text(), -105);
        for (int b : new int[] {'a' - 1, 'z' + 1, '0' - 1, '9' + 1, 'A', 'Z', 'W'}) {
            x = new BedsocksKeepRoads();
            Check.feed(x, "goes wet");
            x.feed(1, b, 0, 0, 0, 0);
            due("byte " + b + " ends a word", x.text(), -108);
            Check.feed(x, "goes 123");
            x.feed(1, b, 0, 0, 0, 0);
            due("byte " + b + " ends a number", x.text(), -108);
        }
    }

    private static void wordsThatAreNone() {
        CHECK.at("also of a WORD that is neither KEY nor NAME");
        for (List<String> words : List.of(KEYS, NAMES)) {
            for (String word : words) {
                fault("goes @" + word + word + ";");
                fault("goes @" + word + "s;");
                fault("goes @" + word + "a;");
                fault("goes @" + word + "z;");
                fault("goes @x" + word + ";");
                fault("goes @" + (char) ('a' + (word.charAt(0) - 'a' + 1) % 26) + word.substring(1) + ";");
                fault("goes 4 @" + (char) ('a' + (word.charAt(0) - 'a' + 25) % 26) + word.substring(1) + " 4;");
                if (!"or".equals(word.substring(1)) && !KEYS.contains(word.substring(1))) {
                    fault("goes @" + word.substring(1) + ";");
                }
                fault("goes @" + word.substring(0, word.length() - 1) + ";");
                fault("goes 4 @" + word.substring(0, word.length() - 1) + "z 5;");
            }
        }
        for (String word : List.of("a", "z", "sleeper", "night", "miles", "text", "e", "if", "true", "goesminds", "abcdefghijklmnopqrstuvwxyz")) {
            fault("@" + word);
            fault("goes @" + word + ";");
            fault("goes 4 @" + word + ";");
            fault("goes 4;@" + word + " 4;");
        }
    }

    private static void numbersTooLong() {
        CHECK.at("also of a NUMBER that is too long (more than 4 digits)");
        String[] longs = {"10000", "00000", "99999", "00001", "123456", "4294967300", "18446744073709551620"};
        for (String one : longs) {
            fault("goes @" + one + ";");
            fault("goes 1+@" + one + ";");
            fault("goes 4;minds -@" + one);
            fault("goes (@" + one + ")");
            fault("goes 4 @" + one);
            fault("@" + one);
        }
        String[] fours = {"0", "00", "000", "0000", "9", "99", "999", "9999", "0001", "1000"};
        for (String one : fours) {
            good("goes " + one + ";minds " + one + ";wears " + one + ";");
            x.force(1);
            x.sleeper(0, 0);
            int worth = Integer.parseInt(one);
            due("goes " + one, x.asks(0, 0), Math.min(20, worth));
            due("minds " + one, x.asks(1, 0), Math.min(99, worth));
            due("worth of " + one, Check.text(x, "goes 1;minds " + one + "=" + worth + ";wears 9999<" + one + ";"), 2);
            x.force(2);
            due("it is that", x.asks(1, 0), 1);
            due("9999 is the most", x.asks(2, 0), 0);
        }
    }

    private static void blanks() {
        CHECK.at("blanks (32, 10) may stand between");
        good("   goes   4   ;   minds   4   ;   wears   4   ;   ");
        good("\ngoes\n4\n;\nminds\n4\n;\nwears\n4\n;\n");
        good(" \n \ngoes \n 4;minds(\n4\n)-\n\n1;wears not\nnot 4 ;\n \n");
        for (int b : new int[] {9, 11, 12, 13, 0, 31, 33, 160, 133, 255}) {
            String one = String.valueOf((char) b);
            fault("@" + one + "goes 4;minds 4;wears 4;");
            fault("goes@" + one + "4;minds 4;wears 4;");
            fault("goes 4;minds 4;wears 4;@" + one);
            fault("goes 4;minds 4;wears 4; \n @" + one);
        }
    }

    private static void endsTooEarly() {
        CHECK.at("the text's size, if it ends too early");
        String text = "goes not(1<2)and 3 ; minds - wet * 4 or 5 ; wears 1 - ( 6 ) ;";
        good(text);
        for (int size = 0; size < text.length(); size++) {
            String part = text.substring(0, size);
            int letters = 0;
            while (letters < size && Character.isLetter(part.charAt(size - 1 - letters))) {
                letters++;
            }
            String last = part.substring(size - letters);
            boolean cut = letters > 0 && !KEYS.contains(last) && !NAMES.contains(last);
            x = new BedsocksKeepRoads();
            // a WORD that is cut short is none; else the text ends too early
            due("text() of [" + part + "]", Check.text(x, part), -100 - (cut ? size - letters : "no".equals(last) ? size - 2 : size));
            due("with blanks behind [" + part + "]", Check.text(x, part + " \n"), -100 - (cut ? size - letters : size + 2));
        }
        fault("@");
        fault(" @");
        fault("\n\n@");
        x = new BedsocksKeepRoads();
        Check.feed(x, " ".repeat(160));
        due("a tape full of blanks", x.text(), -260);
    }

    private static void firstFaultIsTold() {
        CHECK.at("of the first TOKEN that can't stand there");
        fault("goes @) ? 12345 xyz");
        fault("goes @? )");
        fault("@4 ?");
        fault("goes 4 @4 ? goes");
        fault("goes @xyz 12345");
        fault("goes @12345 xyz");
        fault("goes ( 1 @; ?");
        fault("goes 1 @) + ( ( ( ( ( ( 1");
        fault("goes ((((( @( ?");
        fault("goes 1 ; minds 2 ; wears 3 ; @goes ?");
    }

    private static void fiveOpen() {
        CHECK.at("a ( , a not, a - ahead of a ONE while 5 of these are open");
        String[] opens = {"(", "not ", "-"};
        int[] counts = new int[2];
        for (int mix = 0; mix < 243; mix++) {
            StringBuilder text = new StringBuilder("goes ");
            boolean can = true;
            String last = "";
            for (int k = 0, m = mix; k < 5; k++, m /= 3) {
                String one = opens[m % 3];
                can &= !(one.equals("not ") && last.equals("-"));
                text.append(one);
                last = one;
            }
            if (!can) {
                continue;
            }
            counts[0]++;
            fault(text + "@(1");
            fault(text + "@-1");
            fault(text + "@not 1");
            // those - that stand last ended with the 1, so as many may be open again
            String again = "-".repeat(text.length() - text.toString().replaceAll("-+$", "").length());
            fault(text + "1*" + again + "@-1");
            fault(text + "1*" + again + "@(1");
            fault(text + "1@");
            String closed = text + "1" + ")".repeat(text.toString().replaceAll("[^(]", "").length());
            good(closed + ";minds 1;wears 1;");
            good(closed + "or-----1;minds 1;wears 1;");
        }
        due("there are such", counts[0] > 50 ? 1 : 0, 1);
    }

    private static void opensEnd() {
        CHECK.at("(a ( till its ) , not and - till what they belong to ends)");
        good("goes ((((1))))*((((1))))-((((1))))<((((1))))and((((1))))or((((1))));minds 1;wears 1;");
        good("goes (((((1)))))+(((((1)))));minds (((((2)))));wears -((((1))));");
        good("goes not not not not not 1 and not not not not not 1 or not not not not not 1;minds 1;wears 1;");
        good("goes -----1*-----1+-----1------1<-----1;minds 1;wears 1;");
        good("goes not----1;minds not((((1))));wears -((((1))));");
        fault("goes not not not not not 1 < @- 1;");
        fault("goes not not not not not 1 - @(1);");
        fault("goes not not not not 1 < - @- 1;");
        good("goes not not not not 1 < - 1;minds 1;wears 1;");
        good("goes not not not not not 1 or - 1;minds 1;wears 1;");
        good("goes ((((-1*-1-1))))and-1;minds 1;wears 1;");
        good("goes ((((-1)-1)))*-----1;minds 1;wears 1;");
        fault("goes (((((1)--@-1");
        good("goes (((((1)-1)-1)-1)-1)-1;minds 1;wears 1;");
        good("goes ((((1)-1)-1)-1)--1;minds 1;wears 1;");
        fault("goes ((((1)-(1)-((2)-(@(");
        fault("goes -----1*-----1*-----@-1;");
        fault("goes ----(@-1");
        fault("goes 1------@-1;");
        good("goes 1------1;minds 1;wears 1;");
        CHECK.at("five were open in one part; none is in the next");
        good("goes (((((1)))));minds (((((1)))));wears (((((1)))));");
        good("goes -----1;minds -----1;wears -----1;");
        good("goes not not not not not 1;minds not not not not not 1;wears not not not not not 1;");
    }

    private static void tapeOf160() {
        term("THE TAPE (160 bytes at most)");
        String text = "goes 1" + "+1".repeat(9) + ";minds " + "wet+".repeat(20) + "7;wears 3;";
        String padded = text + " ".repeat(160 - text.length() - 1);
        Check.feed(x, padded);
        due("159", x.count(5), 159);
        due("feed of two", x.feed(2, 32, 32, 0, 0, 0), -4);
        due("feed of one", x.feed(1, 32, 0, 0, 0, 0), 160);
        due("feed of one more", x.feed(1, 32, 0, 0, 0, 0), -4);
        due("160 bytes are a text", x.text(), 1);
        x.sleeper(0, 0);
        x.put(0, 3, 1);
        x.force(1);
        due("goes", x.asks(0, 0), 10);
        due("minds", x.asks(1, 0), 27);
        due("wears", x.asks(2, 0), 3);
        term("the last byte of 160 is read");
        String full = "goes 1;minds 1;wears " + "1+".repeat(69) + "1";
        due("160 with the ';'", full.length(), 160);
        due("it ends too early", Check.text(x, full), -260);
        full = "goes 1;minds 1;wears 1" + "+1".repeat(68) + " ;";
        due("160 with the ';'", full.length(), 160);
        due("it is a text", Check.text(x, full), 1);
        x.sleeper(0, 0);
        x.force(1);
        due("wears", x.asks(2, 0), 69);
        full = "goes 1;minds 1;wears 1" + "+1".repeat(68) + ";?";
        due("the last byte is a fault", Check.text(x, full), -259);
        full = "goes " + "1 ".repeat(77) + "1";
        due("the second number", Check.text(x, full), -107);
    }

    private static void tapeIsEmptyThen() {
        term("THE TAPE, which is empty then (by a FAULT, too)");
        due("a FAULT", Check.text(x, "goes 1;minds 1;wears 1;?"), -123);
        due("empty", x.count(5), 0);
        due("of nothing", x.text(), -100);
        due("nothing of it is left", Check.text(x, "minds 1;"), -100);
        due("a text", Check.text(x, "goes 1;minds 1;wears 1;"), 1);
        due("empty", x.count(5), 0);
        due("of nothing", x.text(), -100);
        due("room for 160 again", feedAll(), 160);
    }

    /** A text ends where it ends, though a longer one with a FAULT was read ahead of it. */
    private static void faultyOnesLeaveNothing() {
        term("by a FAULT there is no TEXT");
        String[] faulty = {"- 3 x", "not 3 x", "- - 3 (", "( - 3 ;", "- 3 ; x"};
        for (int t = 0; t < 5; t++) {
            String text = "goes 1 ; minds 2 ; wears " + faulty[t];
            due("the last token of " + text, Check.text(x, text), -100 - (text.length() - 1));
            due("a TEXT", Check.text(x, "goes 3 ; minds 4 ; wears 5 ;"), t + 1);
        }
        x.sleeper(0, 0);
        for (int t = 1; t <= 5; t++) {
            x.force(t);
            due("goes", x.asks(0, 0), 3);
            due("minds", x.asks(1, 0), 4);
            due("wears", x.asks(2, 0), 5);
        }
    }

    private static int feedAll() {
        for (int i = 0; i < 31; i++) {
            x.feed(5, 32, 32, 32, 32, 32);
        }
        return x.feed(5, 32, 32, 32, 32, 32);
    }

    private static void textsAreNumbered() {
        term("TEXTS are numbered from 0 on, 6 at most");
        for (int t = 1; t < 6; t++) {
            due("a FAULT is no text", Check.text(x, "goes " + t + ";minds 1;wears"), -120);
            due("its number", Check.text(x, "goes " + t + ";minds " + -t + ";wears " + 2 * t + ";"), t);
            due("how many", x.count(3), t + 1);
            due("the law is as it was", x.count(4), 0);
        }
        due("no seventh", Check.text(x, "goes 1;minds 1;wears 1;"), -4);
        due("the tape stays", x.count(5), 23);
        x.sleeper(0, 0);
        for (int t = 5; t >= 1; t--) {
            x.force(t);
            due("goes", x.asks(0, 0), t);
            due("minds", x.asks(1, 0), -t);
            due("wears", x.asks(2, 0), 2 * t);
        }
        due("force(5)", x.force(5), 1);
        due("force(6)", x.force(6), -2);
    }

    private static void worth(String e, int want) {
        x = new BedsocksKeepRoads();
        due("text() of " + e, Check.text(x, "goes 0;minds " + e + ";wears 0;"), 1);
        x.sleeper(7, 420);
        x.put(0, 3, 13);
        x.put(0, 4, 21);
        x.force(1);
        due(e, x.asks(1, 0), want);
    }

    /** Which signs bind more: - ahead of a ONE, *, + and -, < and =, not, and, or. */
    private static void bindings() {
        CHECK.at("E, AND, NOT, SUM, TERM, ONE");
        worth("2+3*4", 14);
        worth("2*3+4", 10);
        worth("20-3*4-1", 7);
        worth("20-3-4", 13);
        worth("20-(3-4)", 21);
        worth("2*-3", -6);
        worth("-2*3+1", -5);
        worth("-2-3", -5);
        worth("- - 2", 2);
        worth("1+1<3", 1);
        worth("3<1+1", 0);
        worth("1<1+1", 1);
        worth("2=1+1", 1);
        worth("1+(1<3)", 2);
        worth("1+(1=3)", 1);
        worth("not 1<2", 0);
        worth("(not 1)<2", 1);
        worth("not 1+1", 0);
        worth("not 0+1", 0);
        worth("(not 0)+1", 2);
        worth("not 0 and 0", 0);
        worth("not(0 and 0)", 1);
        worth("not 1 or 1", 1);
        worth("not(1 or 1)", 0);
        worth("1 or 0 and 0", 1);
        worth("(1 or 0)and 0", 0);
        worth("0 and 0 or 1", 1);
        worth("0 and(0 or 1)", 0);
        worth("1<2 and 2<1", 0);
        worth("1<2 or 2<1", 1);
        worth("0=0 and 1", 1);
        worth("0 or 0 or 3", 1);
        worth("3 and 3 and 3", 1);
        worth("(1<2)=(3<4)", 1);
        worth("(1<2)<(3<4)", 0);
        worth("not not 5", 1);
        worth("not not not 5", 0);
        worth("stitch", 0);
        worth("column*100-row", 99);
        worth("row-column", 3);
        worth("wool-wet-more", 1);
        worth("((((wet))))-((((wool))))", -8);
    }

    private static void wrapping() {
        CHECK.at("An E is an int (32 bits, wrapping)");
        String most = "(8192*8192*32-1)";
        String least = "8192*8192*32";
        worth(most, 99);
        worth(least, -99);
        worth(most + "+1", -99);
        worth(least + "-1", 99);
        worth("-(" + least + ")", -99);
        worth("-" + most, -99);
        worth("-" + most + "-1=" + least, 1);
        worth("-" + most + "-2=" + most, 1);
        worth(most + "+" + most, -2);
        worth(most + "*" + most, 1);
        worth("(" + least + ")*2", 0);
        worth("(" + least + ")*3=" + least, 1);
        worth("8192*8192*64", 0);
        worth("8192*8192*64+5", 5);
        worth(least + "<" + most, 1);
        worth(most + "<" + least, 0);
        worth(least + "<1", 1);
        worth("1<" + least, 0);
        worth(most + "<-1", 0);
        worth("-1<" + most, 1);
        worth("not " + least, 0);
        worth(least + " and " + most, 1);
        worth("9999*9999*21", 99);
        worth("9999*9999*22", -99);
    }

    private static void truths() {
        CHECK.at("of or, and, not, <, = 1 or 0 (what is not 0 is true)");
        int[] all = {0, 1, 2, -1, -7, 99};
        for (int a : all) {
            worth("not " + a, a == 0 ? 1 : 0);
            for (int b : all) {
                worth(a + " or " + b, a != 0 || b != 0 ? 1 : 0);
                worth(a + " and " + b, a != 0 && b != 0 ? 1 : 0);
                worth(a + " < " + b, a < b ? 1 : 0);
                worth(a + " = " + b, a == b ? 1 : 0);
            }
        }
    }
}
