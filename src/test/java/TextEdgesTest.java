/** Terms 1 and promises 1 to 6: each boundary of the TAPE, TOKENS, PLACES and FAULTS, with both sides of it. */
public final class TextEdgesTest {
    private static final String[] OWN = {"yes", "no", "fun", "let", "in", "if", "call", "pair", "first", "second",
        "nil", "cons", "head", "tail", "add", "less", "as", "def", "num", "truth", "any", "row", "both", "from"};

    private static String blanks(int n) {
        return Edges.times(n, " ");
    }

    // ---- the TAPE

    private static void feedCounts() {
        String s = "how many there are; NONE if there would be more than 1,600";
        WhyNot x = new WhyNot();
        for (int i = 1; i <= 80; i++) {
            Edges.due(s, "feed no. " + i, x.feed(0x20202020, 0x20202020, 0x20202020, 0x20202020, 0x20202020), 20 * i);
            Edges.due(s, "about(5)", x.about(5), 20 * i);
        }
        Edges.due(s, "feed no. 81", x.feed(0, 0, 0, 0, 0), -1);
        Edges.due(s, "about(5)", x.about(5), 1600);
        int[] lengths = {1579, 1580, 1581, 1599, 1600};
        for (int length : lengths) {
            WhyNot y = new WhyNot();
            Edges.tape(y, blanks(1600));
            y.end(length);
            Edges.due(s, "feed behind " + length, y.feed(0x20202020, 0x20202020, 0x20202020, 0x20202020, 0x20202020),
                    length <= 1580 ? length + 20 : -1);
            Edges.due(s, "about(5) behind " + length, y.about(5), length <= 1580 ? length + 20 : length);
        }
    }

    /** A sign that is no TOKEN tells where it stands: each byte of the five numbers has its place. */
    private static void feedOrder() {
        String s = "Twenty bytes come, of each number the highest first";
        for (int at = 0; at < 20; at++) {
            int[] n = {0x20202020, 0x20202020, 0x20202020, 0x20202020, 0x20202020};
            n[at / 4] ^= (0x20 ^ 0xff) << 8 * (3 - at % 4);
            WhyNot x = new WhyNot();
            Edges.due(s, "feed", x.feed(n[0], n[1], n[2], n[3], n[4]), 20);
            Edges.due(s, "feed of blanks", x.feed(0x20202020, 0x20202020, 0x20202020, 0x20202020, 0x20202020), 40);
            x.program();
            Edges.due(s, "fault(0)", x.fault(0), 1);
            Edges.due(s, "fault(1)", x.fault(1), at);
        }
    }

    /** A FAULT between them shows that a refused feed left no byte behind. */
    private static void refusedFeed() {
        String s = "NONE, and nothing comes";
        WhyNot x = new WhyNot();
        Edges.tape(x, blanks(1600));
        x.end(1590);
        Edges.due(s, "feed", x.feed(-1, -1, -1, -1, -1), -1);
        Edges.due(s, "about(5)", x.about(5), 1590);
        Edges.due(s, "end(1591)", x.end(1591), -1);
        Edges.due(s, "program()", x.program(), 0);
    }

    private static void end() {
        String s = "its first n bytes: n; NONE if it has not so many, or n is below 0";
        WhyNot x = new WhyNot();
        Edges.due(s, "end(0) of none", x.end(0), 0);
        Edges.due(s, "end(1) of none", x.end(1), -1);
        Edges.due(s, "end(-1) of none", x.end(-1), -1);
        Edges.tape(x, "def a 12;def b 345; ");
        int[] refused = {21, 22, 1600, 1601, -1, -20, Integer.MIN_VALUE, Integer.MAX_VALUE};
        for (int n : refused) {
            Edges.due(s, "end(" + n + ") of 20", x.end(n), -1);
            Edges.due(s, "about(5) behind end(" + n + ")", x.about(5), 20);
        }
        Edges.due(s, "end(20) of 20", x.end(20), 20);
        Edges.due(s, "end(19) of 20", x.end(19), 19);
        Edges.due(s, "end(20) of 19", x.end(20), -1);
        Edges.due(s, "end(9) of 19", x.end(9), 9);
        Edges.tape(x, "def c 6789;");
        Edges.due(s, "about(5)", x.about(5), 20);
        Edges.due(s, "program()", x.program(), 2);
        Edges.due(s, "place(0, 3)", x.place(0, 3), 12);
        Edges.due(s, "place(1, 3)", x.place(1, 3), 6789);
        Edges.due(s, "end(0) behind program()", x.end(0), 0);
        Edges.due(s, "end(1) behind program()", x.end(1), -1);
        Edges.tape(x, "def d 1;");
        Edges.due(s, "end(0)", x.end(0), 0);
        Edges.due(s, "program() of none", x.program(), 0);
        Edges.due(s, "about(0)", x.about(0), 0);
    }

    private static void longTexts() {
        String s = "a text of at most 1,600 bytes";
        WhyNot x = new WhyNot();
        Edges.due(s, "program() of 1,600 bytes", Edges.read(x, "def a" + blanks(1593) + "7;"), 1);
        Edges.due(s, "place(0, 1)", x.place(0, 1), 1598);
        Edges.due(s, "program() of its first 1,599", Edges.read(x, "def a" + blanks(1593) + "7"), -1);
        Edges.due(s, "fault(0)", x.fault(0), 2);
        Edges.due(s, "fault(1)", x.fault(1), 1599);
        Edges.fault(s, 2, 1600, "def a 7" + blanks(1593));
        Edges.fault(s, 1, 1599, "def a 7;" + blanks(1591) + "#");
        Edges.fault(s, 2, 1599, "def a 7;" + blanks(1591) + ";");
        Edges.fault(s, 5, 1600, many(401) + blanks(1600 - many(401).length()));
        Edges.taken(s, 0, blanks(1600));
        Edges.taken(s, 0, Edges.times(1600, "\n"));
        Edges.taken(s, 0, "");
        Edges.fault(s, 1, 0, Edges.times(1600, "a"));
        Edges.fault(s, 1, 6, "def a " + Edges.times(1594, "9"));
        Edges.fault(s, 1, 6, "def a " + Edges.times(1594, "z"));
    }

    // ---- TOKENS

    private static boolean letter(int b) {
        return b >= 97 && b <= 122;
    }

    private static boolean digit(int b) {
        return b >= 48 && b <= 57;
    }

    private static boolean blank(int b) {
        return b == 32 || b == 10;
    }

    private static void everyByte() {
        String s = "TOKENS: words (a .. z), N, the sign ; ; blanks (32, 10) part them or not";
        for (int b = 0; b < 256; b++) {
            String sign = String.valueOf((char) b);
            String alone = "def a " + sign + ";";
            if (digit(b)) {
                Edges.taken(s, 1, alone);
            } else if (letter(b)) {
                Edges.fault(s, 4, 6, alone);
            } else if (blank(b)) {
                Edges.fault(s, 2, 7, alone);
            } else {
                Edges.fault(s, b == ';' ? 2 : 1, 6, alone);
            }
            behindNumber(b, "def a 1" + sign + ";");
            behindWord(b, "def a 1;def b a" + sign + ";");
        }
    }

    private static void behindNumber(int b, String text) {
        String s = "no letter directly behind an N (an N with a letter behind it: 1 at its first byte)";
        if (letter(b)) {
            Edges.fault(s, 1, 6, text);
        } else if (digit(b) || blank(b)) {
            Edges.taken(s, 1, text);
        } else {
            Edges.fault(s, b == ';' ? 2 : 1, b == ';' ? 8 : 7, text);
        }
    }

    private static void behindWord(int b, String text) {
        String s = "words: each is as long as can be";
        if (b == 's') {
            // as is a word of its own: its kind is missing
            Edges.fault(s, 2, 16, text);
        } else if (letter(b)) {
            Edges.fault(s, 4, 14, text);
        } else if (blank(b)) {
            Edges.taken(s, 2, text);
        } else if (digit(b)) {
            Edges.fault(s, 2, 15, text);
        } else {
            Edges.fault(s, b == ';' ? 2 : 1, b == ';' ? 16 : 15, text);
        }
    }

    private static void blanksOrNot() {
        String s = "blanks part them or not";
        Edges.taken(s, 1, "def a1;");
        Edges.taken(s, 3, "def a add1 2;");
        Edges.taken(s, 3, "def a add 1 2 ;");
        Edges.taken(s, 3, "\n\n def\na\nadd\n1\n2\n;\n");
        Edges.taken(s, 2, "def a1;def b2;");
        Edges.fault(s, 1, 9, "def a add1x;");
        Edges.fault(s, 4, 6, "def a addx x;");
        Edges.fault(s, 4, 6, "def a nilnil;");
        Edges.fault(s, 2, 0, "defa 1;");
        Edges.fault(s, 1, 9, "def a add12345 1;");
        Edges.fault(s, 1, 6, "def a 1def b 1;");
        // Five digits are one TOKEN too long, not one of four and one of one.
        Edges.fault(s, 1, 10, "def a add 12345;");
        Edges.taken(s, 3, "def a add 1234 5;");
    }

    private static void wordLengths() {
        String s = "words (8 at most); a longer word: 1 at its first byte";
        for (int n = 1; n <= 30; n++) {
            String word = Edges.times(n, "q");
            String[] texts = {"def " + word + " 1;", "def a fun " + word + " 1;", "def a let " + word + " 1 in 2;",
                "def " + Edges.times(Math.min(n, 8), "q") + " 1;def a " + word + ";"};
            int[] at = {4, 10, 10, 7 + Math.min(n, 8) + 6};
            int[] places = {1, 2, 3, 2};
            for (int i = 0; i < texts.length; i++) {
                if (n <= 8) {
                    Edges.taken(s, places[i], texts[i]);
                } else {
                    Edges.fault(s, 1, at[i], texts[i]);
                }
            }
        }
        // All eight letters tell words apart, and those of own words with a letter more are NAMES.
        Edges.taken(s, 4, "def abcdefgh 1;def abcdefgi 2;def bbcdefgh abcdefgh;def x abcdefgi;");
        Edges.taken(s, 2, "def zzzzzzzz 1;def zzzzzzz zzzzzzzz;");
        Edges.fault(s, 4, 20, "def zzzzzzz 1;def y zzzzzzzz;");
    }

    private static void numbers() {
        String s = "N (1 to 4 digits); more digits: 1 at its first byte";
        String[] taken = {"0", "9", "00", "10", "99", "000", "100", "999", "0000", "0001", "1000", "9999"};
        for (String n : taken) {
            WhyNot x = Edges.of("def a " + n + ";");
            Edges.due(s, "place(0, 0) of " + n, x.place(0, 0), 0);
            Edges.due(s, "place(0, 3) of " + n, x.place(0, 3), Integer.parseInt(n));
            Edges.due(s, "run(1) of " + n, x.run(1), Integer.parseInt(n));
        }
        String[] refused = {"00000", "10000", "99999", "000000", "4294967297", "18446744073709551617"};
        for (String n : refused) {
            Edges.fault(s, 1, 6, "def a " + n + ";");
            Edges.fault(s, 1, 10, "def a add " + n + " 1;");
            Edges.fault(s, 1, 4, "def " + n + " 1;");
        }
        String[] lettered = {"0a", "9z", "99a", "999z", "9999a", "99999a", "1e3", "0x"};
        for (String n : lettered) {
            Edges.fault(s, 1, 6, "def a " + n + ";");
        }
    }

    private static void ownWords() {
        String s = "Words that stand for themselves here are no NAMES";
        for (String own : OWN) {
            Edges.fault(s, 2, 4, "def " + own + " 1;");
            Edges.fault(s, 2, 10, "def a fun " + own + " 1;");
            Edges.fault(s, 2, 10, "def a let " + own + " 1 in 2;");
            String more = own + "x";
            Edges.taken(s, 4, "def " + more + " 1;def b fun " + more + " " + more + ";def c " + more + ";");
            String less = own.substring(0, own.length() - 1);
            Edges.taken(s, 3, "def a let " + less + " 1 in " + less + ";");
        }
        Edges.taken(s, 3, "def e fun n n;def kind 1;");
        Edges.taken(s, 2, "def program 1;def name program;");
        String[] noE = {"in", "def", "num", "truth", "any", "row", "both", "from"};
        for (String own : noE) {
            Edges.fault(s, 2, 6, "def a " + own + ";");
            Edges.fault(s, 2, 12, "def a add 1 " + own + ";");
        }
    }

    // ---- the grammar

    /** Each word of e with as many e as it asks, one less, one more. */
    private static void eachSort() {
        String[] words = {"5", "yes", "no", "z", "fun x", "if", "call", "pair", "first", "second", "nil", "cons",
            "head", "tail", "add", "less", "as num"};
        int[] sorts = {0, 1, 1, 2, 3, 5, 6, 7, 8, 9, 10, 11, 12, 13, 14, 15, 16};
        int[] asked = {0, 0, 0, 0, 1, 3, 2, 2, 1, 1, 0, 2, 1, 1, 2, 2, 1};
        int[] values = {5, 1, 0, 0, 0, 0, 0, 0, 0, 0, 0, 0, 0, 0, 0, 0, 0};
        for (int i = 0; i < words.length; i++) {
            String s = "e = " + words[i];
            String start = "def z 1;def a " + words[i];
            WhyNot x = Edges.of(start + Edges.times(asked[i], " z") + ";");
            Edges.due(s, "about(1)", x.about(1), 2 + asked[i]);
            Edges.due(s, "place(1, 0)", x.place(1, 0), sorts[i]);
            Edges.due(s, "place(1, 1)", x.place(1, 1), 14);
            Edges.due(s, "place(1, 2)", x.place(1, 2), 1);
            Edges.due(s, "place(1, 3)", x.place(1, 3), values[i]);
            Edges.due(s, "place behind the last", x.place(2 + asked[i], 0), -1);
            Edges.fault(s, 2, start.length() + 2 * asked[i] + 1, start + Edges.times(asked[i] + 1, " z") + ";");
            if (asked[i] > 0) {
                Edges.fault(s, 2, start.length() + 2 * asked[i] - 2, start + Edges.times(asked[i] - 1, " z") + ";");
                Edges.fault(s, 2, start.length() + 2 * asked[i] - 2, start + Edges.times(asked[i] - 1, " z"));
            }
            Edges.fault(s, 2, start.length() + 2 * asked[i], start + Edges.times(asked[i], " z"));
        }
    }

    private static void letAndFun() {
        String s = "let NAME e in e";
        Edges.taken(s, 3, "def a let x 1 in 2;");
        Edges.fault(s, 2, 14, "def a let x 1 2;");
        Edges.fault(s, 2, 13, "def a let x 1;");
        Edges.fault(s, 2, 12, "def a let x in 2;");
        Edges.fault(s, 2, 10, "def a let 1 in 2;");
        Edges.fault(s, 2, 16, "def a let x 1 in;");
        Edges.fault(s, 2, 17, "def a let x 1 in in 2;");
        Edges.fault(s, 2, 19, "def a let x 1 in 2 3;");
        Edges.fault(s, 1, 14, "def a let x 1 innnnnnnn 2;");
        String f = "fun NAME e";
        Edges.fault(f, 2, 9, "def a fun;");
        Edges.fault(f, 2, 11, "def a fun x;");
        Edges.fault(f, 2, 10, "def a fun 1 x;");
        Edges.fault(f, 1, 10, "def a fun 12345 x;");
        String d = "program = {def NAME e ;}";
        Edges.fault(d, 2, 3, "def");
        Edges.fault(d, 2, 5, "def a");
        Edges.fault(d, 2, 3, "def;");
        Edges.fault(d, 2, 5, "def a;");
        Edges.fault(d, 2, 4, "def ;");
        Edges.fault(d, 2, 7, "def a 1");
        Edges.fault(d, 2, 8, "def a 1;;");
        Edges.fault(d, 2, 0, ";");
        Edges.fault(d, 2, 0, "a");
        Edges.fault(d, 2, 8, "def a 1;a");
        Edges.fault(d, 2, 8, "def a 1;in");
        Edges.fault(d, 2, 8, "def a 1;1");
    }

    private static void eachKind() {
        String s = "kind = num | truth | any | row kind | both kind kind | from kind kind";
        String[] words = {"num", "truth", "any", "row", "both", "from"};
        int[] asked = {0, 0, 0, 1, 2, 2};
        for (int i = 0; i < words.length; i++) {
            String start = "def a as " + words[i];
            int all = asked[i];
            Edges.taken(s, 2, start + Edges.times(all, " any") + " nil;");
            Edges.fault(s, 2, start.length() + 4 * all + 1, start + Edges.times(all + 1, " any") + " nil;");
            if (all > 0) {
                Edges.fault(s, 2, start.length() + 4 * all - 3, start + Edges.times(all - 1, " any") + " nil;");
                Edges.fault(s, 2, start.length() + 4 * all - 3, start + Edges.times(all - 1, " any") + " 1;");
                Edges.fault(s, 2, start.length() + 4 * all - 4, start + Edges.times(all - 1, " any") + ";");
            }
        }
        Edges.fault(s, 2, 9, "def a as kind nil;");
        Edges.fault(s, 2, 9, "def a as nil nil;");
        Edges.fault(s, 2, 9, "def a as def nil;");
        Edges.fault(s, 2, 9, "def a as in nil;");
        Edges.fault(s, 2, 9, "def a as 1 nil;");
        Edges.fault(s, 2, 8, "def a as;");
        Edges.fault(s, 1, 9, "def a as numnumnum nil;");
    }

    // ---- NAMES

    private static void meant(String text, int place, String other) {
        String s = "the nearest one is meant";
        WhyNot x = Edges.of(text);
        WhyNot y = Edges.of(other);
        Edges.due(s, "run(0) of " + text, x.run(0), y.run(0));
        Edges.due(s, "run(1) of " + text, x.run(1), y.run(1));
        Edges.due(s, "place(" + place + ", 0) of " + text, x.place(place, 0), 2);
    }

    private static void names() {
        meant("def a call fun x call fun x x 2 1;", 4, "def a 2;");
        meant("def a let x 1 in let x 2 in x;", 4, "def a 2;");
        meant("def a let x 1 in let x x in x;", 3, "def a 1;");
        meant("def a call fun x let x add x 1 in add x x 4;", 7, "def a 10;");
        meant("def a let x 3 in call fun x x 5;", 4, "def a 5;");
        meant("def a 7;def b call fun a a 8;", 3, "def a 8;");
        meant("def a 7;def b let a 8 in a;", 3, "def a 8;");
        meant("def a 7;def b let a a in a;", 2, "def a 7;");
        meant("def a 7;def b add let a 8 in a a;", 5, "def a 15;");
        meant("def a 1;def b 2;def c add a b;", 3, "def a 3;");
        String s = "of fun, let in their last e, let's first e not; of def in those behind";
        Edges.fault(s, 4, 12, "def a let x x in 1;");
        Edges.fault(s, 4, 16, "def a let x add x 1 in 1;");
        Edges.fault(s, 4, 24, "def a pair let x 1 in x x;");
        Edges.fault(s, 4, 24, "def a pair let x 1 in 2 x;");
        Edges.fault(s, 4, 19, "def a pair fun x x x;");
        Edges.fault(s, 4, 6, "def a a;");
        Edges.fault(s, 4, 12, "def a fun x a;");
        Edges.fault(s, 4, 6, "def a b;def b 1;");
        Edges.fault(s, 4, 20, "def a fun x 1;def b x;");
        Edges.fault(s, 4, 25, "def a let x 1 in 2;def b x;");
        Edges.fault(s, 4, 28, "def a 1;def b 1;def c let d d in 1;");
        Edges.taken(s, 2, "def a 1;def b a;");
        Edges.taken(s, 5, "def a let x 1 in let y x in y;");
    }

    private static void toldAgain() {
        String s = "3 a NAME of a DEF told already as a DEF";
        Edges.fault(s, 3, 12, "def a 1;def a 2;");
        Edges.fault(s, 3, 12, "def a 1;def a");
        Edges.fault(s, 3, 20, "def a 1;def b 2;def a 3;");
        Edges.fault(s, 3, 20, "def a 1;def b 2;def b 3;");
        String seven = "def a 1;def b 1;def c 1;def d 1;def e 1;def f 1;def g 1;";
        Edges.fault(s, 3, 60, seven + "def a 1;");
        Edges.fault(s, 3, 60, seven + "def g 1;");
        Edges.taken(s, 8, seven + "def h 1;");
        Edges.taken("A NAME may be told again", 4, "def a fun a a;def b fun a a;");
        Edges.taken("A NAME may be told again", 5, "def a let b 1 in b;def b fun b b;");
    }

    // ---- the limits

    private static void defs() {
        String s = "At most 8 DEFS; a 9th DEF: at its def";
        StringBuilder b = new StringBuilder();
        for (int n = 1; n <= 8; n++) {
            b.append("def ").append((char) ('a' + n)).append(" 1;");
            Edges.taken(s, n, b.toString());
            Edges.due(s, "about(0)", Edges.of(b.toString()).about(0), n);
        }
        String eight = b.toString();
        Edges.taken(s, 8, eight + " \n");
        Edges.fault(s, 2, 64, eight + "def z 1;");
        Edges.fault(s, 2, 67, eight + "\n\n def z 1;");
        Edges.fault(s, 2, 64, eight + "def b 1;");
        Edges.fault(s, 2, 64, eight + "def 12345;");
        Edges.fault(s, 2, 64, eight + "def");
        Edges.fault(s, 2, 64, eight + ";");
        Edges.fault(s, 1, 64, eight + "definitely 1;");
        Edges.fault(s, 1, 64, eight + "#");
        Edges.taken(s, 7, eight.substring(0, 56));
    }

    /** So many PLACES, an odd number from 21 to 39, none within more than 10. */
    private static String places(int n) {
        return "def a pair " + Edges.times(9, "add 1 ") + "1 " + Edges.times((n - 21) / 2, "add 1 ") + "1;";
    }

    private static void forty() {
        String s = "40 PLACES; a 41st PLACE: at its first TOKEN";
        Edges.taken(s, 39, places(39));
        String forty = places(39) + "def b 1;";
        Edges.taken(s, 40, forty);
        Edges.due(s, "about(1)", Edges.of(forty).about(1), 40);
        Edges.due(s, "place(39, 0)", Edges.of(forty).place(39, 0), 0);
        Edges.due(s, "place(40, 0)", Edges.of(forty).place(40, 0), -1);
        int at = forty.length() + 6;
        String[] more = {"1", "yes", "nil", "a", "x", "fun x x", "let x 1 in x", "if yes 1 2", "as num 1", "add", "in", ""};
        for (String e : more) {
            Edges.fault(s, 2, at, forty + "def c " + e + ";");
        }
        String[] bad = {"12345", "1a", "longerword", "#", "A"};
        for (String e : bad) {
            Edges.fault(s, 1, at, forty + "def c " + e + ";");
        }
        // within an e: the 40th is add, its first e is the 41st
        Edges.fault(s, 2, places(39).length() + 10, places(39) + "def b add 1 2;");
        Edges.fault(s, 2, places(39).length() + 13, places(39) + "def b as num 2;");
        Edges.fault(s, 2, places(39).length() + 12, places(39) + "def b fun x x;");
        Edges.taken(s, 38, places(37) + "def b 1;");
    }

    private static void within() {
        String s = "an e within 20 others at most; an e within 21 others: at its first TOKEN";
        String[] steps = {"head ", "fun x ", "first ", "as any ", "add 1 ", "less 1 ", "call 1 ", "let x 1 in "};
        String sixteen = "def a " + Edges.times(16, "tail ");
        for (String step : steps) {
            int length = step.length();
            int one = step.indexOf('1');
            Edges.taken(s, 16 + (one < 0 ? 3 : 6) + 1, sixteen + Edges.times(3, step) + "nil;");
            Edges.taken(s, 16 + (one < 0 ? 4 : 8) + 1, sixteen + Edges.times(4, step) + "nil;");
            // of two e the first is within 21 others already
            int at = sixteen.length() + 4 * length + (one < 0 ? length : one);
            String[] last = {"nil", "1", "x", "fun x x", "add 1 2", "a", ";", ""};
            for (String e : last) {
                Edges.fault(s, 2, at, sixteen + Edges.times(5, step) + e);
                Edges.fault(s, 2, at, sixteen + Edges.times(6, step) + e);
            }
            if (one < 0) {
                Edges.fault(s, 1, at, sixteen + Edges.times(5, step) + "longerword;");
            }
        }
        Edges.taken(s, 20, "def a " + Edges.times(19, "fun x ") + "x;");
        Edges.taken(s, 21, "def a " + Edges.times(20, "fun x ") + "x;");
        Edges.fault(s, 2, 6 + 21 * 6, "def a " + Edges.times(21, "fun x ") + "x;");
        // behind what stands deep there is room again
        Edges.taken(s, 23, "def a pair " + Edges.times(19, "tail ") + "nil tail 2;");
        String twenty = "def a " + Edges.times(20, "tail ");
        Edges.fault(s, 2, twenty.length() + 5, twenty + "pair nil 1;");
        Edges.fault(s, 2, twenty.length() + 6, twenty + "let x 1 in 2;");
        Edges.fault(s, 2, twenty.length() + 3, twenty + "if yes 1 2;");
        String nineteen = "def a " + Edges.times(19, "tail ");
        Edges.taken(s, 23, nineteen + "if yes 1 2;");
        Edges.fault(s, 2, nineteen.length() + 15, nineteen + "if yes 1 let x 2 in 3;");
        Edges.fault(s, 2, nineteen.length() + 11, nineteen + "let x tail 1 in 2;");
    }

    private static void kindWords() {
        String s = "20 kinds in all that stand behind as; a 21st kind: at its first TOKEN";
        Edges.taken(s, 2, "def a as " + Edges.times(18, "row ") + "num nil;");
        Edges.taken(s, 2, "def a as " + Edges.times(19, "row ") + "num nil;");
        Edges.fault(s, 2, 9 + 80, "def a as " + Edges.times(20, "row ") + "num nil;");
        Edges.taken(s, 2, "def a as " + Edges.times(9, "both any ") + "row num nil;");
        Edges.fault(s, 2, 9 + 90, "def a as " + Edges.times(10, "both any ") + "num nil;");
        Edges.taken(s, 21, "def a " + Edges.times(20, "as any ") + "nil;");
        Edges.fault(s, 2, 146, "def a " + Edges.times(19, "as any ") + "as row any nil;");
        String nineteen = "def a as " + Edges.times(18, "row ") + "num nil;def b ";
        Edges.taken(s, 4, nineteen + "as any 1;");
        Edges.fault(s, 2, nineteen.length() + 7, nineteen + "as row any 1;");
        String twenty = "def a as " + Edges.times(19, "row ") + "num nil;def b as ";
        String[] more = {"any", "num", "row any", "x", "1", "in", ""};
        for (String kind : more) {
            Edges.fault(s, 2, twenty.length(), twenty + kind + ";");
        }
        Edges.fault(s, 1, twenty.length(), twenty + "12345;");
        Edges.fault(s, 1, twenty.length(), twenty + "anyanyany 1;");
        Edges.taken(s, 3, twenty.substring(0, twenty.length() - 3) + "1;");
    }

    // ---- FAULTS

    private static void faultOrder() {
        String s = "FAULTS, the first by its place";
        Edges.fault(s, 1, 6, "def a # x;def a 1;");
        Edges.fault(s, 2, 6, "def a ; #");
        Edges.fault(s, 3, 12, "def a 1;def a #");
        Edges.fault(s, 3, 12, "def a 1;def a x;");
        Edges.fault(s, 4, 6, "def a x #");
        Edges.fault(s, 4, 6, "def a x");
        Edges.fault(s, 4, 6, "def a x x;def a 1;");
        Edges.fault(s, 4, 10, "def a add x;");
        Edges.fault(s, 2, 8, "def a 1 in x;");
        Edges.fault(s, 1, 8, "def a 1 12345 x;");
        String at = "at one place the least";
        Edges.fault(at, 1, 4, "def longername 1;");
        Edges.fault(at, 1, 12, "def a 1;def abcdefghi 1;");
        Edges.fault(at, 1, 0, "longerword");
        Edges.fault(at, 1, 8, "def a 1 #;");
        String end = "(bytes from 0; the end: the text's length)";
        Edges.fault(end, 2, 1, "\nx");
        Edges.fault(end, 2, 8, "def a \n\n");
        Edges.fault(end, 2, 0, "x");
        Edges.fault(end, 2, 9, "def a 1  ");
    }

    /** A text of so many ASKINGS, from 392 on. */
    private static String many(int askings) {
        String start = "def a 1;def b add a a;def c add b b;def d add c c;def e add d d;def f add e e;";
        // 234 so far; h's e has 2 + 62 + 62 with g; each as is one more
        String text = start + "def g pair f pair d 1;";
        int so = 234 + 1 + 126 + 1 + 30 + 1;
        return text.substring(0, text.length() - 2) + Edges.times(askings - so, "as any ") + "1;";
    }

    private static void askings() {
        String s = "5 (at the text's length) if there are more than 400 ASKINGS";
        for (int n = 393; n <= 400; n++) {
            WhyNot x = Edges.of(many(n));
            Edges.due(s, "about(2) of " + n, x.about(2), n);
        }
        for (int n = 401; n <= 404; n++) {
            Edges.fault(s, 5, many(n).length(), many(n));
            Edges.fault(s, 5, many(n).length() + 2, many(n) + "\n ");
        }
        String none = "Of a text without any of these";
        Edges.fault(none, 2, many(401).length() - 1, many(401).substring(0, many(401).length() - 1));
        Edges.fault(none, 4, many(401).length() + 6, many(401) + "def z x;");
        Edges.fault(none, 3, many(401).length() + 4, many(401) + "def a 1;");
        Edges.fault(none, 1, many(401).length(), many(401) + "#");
        Edges.fault(s, 5, thrice().length(), thrice());
    }

    /** Each DEF has three times the ASKINGS of the one before, and more: some 8,000. */
    private static String thrice() {
        StringBuilder b = new StringBuilder("def a 1;");
        for (char c = 'b'; c <= 'h'; c++) {
            char p = (char) (c - 1);
            b.append("def ").append(c).append(" if ").append(p).append(' ').append(p).append(' ').append(p).append(';');
        }
        return b.toString();
    }

    /** The limits are those of one text: nothing is left of the one before, taken or refused. */
    private static void oneBehindAnother() {
        String s = "The TAPE is the PROGRAM: what was read before does not count";
        String defs = "";
        for (char c = 'a'; c <= 'h'; c++) {
            defs += "def " + c + " 1;";
        }
        String forty = places(39) + "def b 1;";
        String deep = "def a " + Edges.times(20, "tail ") + "nil;";
        String kinds = "def a as " + Edges.times(19, "row ") + "num nil;";
        String[] taken = {defs, forty, deep, kinds, many(400), "def a 1;", ""};
        int[] counts = {8, 40, 21, 2, 28, 1, 0};
        String[] refused = {defs + "def i 1;", forty + "def c 1;", "def a tail " + deep.substring(6), kinds + "def b as num 1;",
            many(401), thrice(), "def a 12345;", "def a 1;def a 2;", "def x y;", "def a as row"};
        for (int i = 0; i < taken.length; i++) {
            for (int k = 0; k < refused.length; k++) {
                WhyNot x = new WhyNot();
                Edges.due(s, "program() no. " + i, Edges.read(x, taken[i]), counts[i]);
                Edges.due(s, "program() refused no. " + k, Edges.read(x, refused[k]), -1);
                Edges.due(s, "about(1)", x.about(1), counts[i]);
                Edges.due(s, "program() no. " + i + " again", Edges.read(x, taken[i]), counts[i]);
                Edges.due(s, "program() no. " + i + " once more", Edges.read(x, taken[i]), counts[i]);
                Edges.due(s, "program() refused no. " + k + " again", Edges.read(x, refused[k]), -1);
                Edges.due(s, "program() of another", Edges.read(x, taken[(i + k) % 7]), counts[(i + k) % 7]);
            }
        }
    }

    private static void askingsCounted() {
        String s = "each PLACE is one, and a NAME of a let or DEF as many more as its e has ASKINGS";
        String[] texts = {"", "def a 1;", "def a fun x x;", "def a fun x pair x x;", "def a let x 1 in 2;",
            "def a let x 1 in x;", "def a let x add 1 2 in pair x x;", "def a 1;def b a;", "def a pair 1 2;def b a;def c b;",
            "def a let x 1 in let y x in y;", "def a fun z let x z in pair x x;", "def a let x fun y y in call x x;",
            "def a let x let y 1 in y in x;", "def a 1;def b let x a in x;", "def a 1;def b let a pair a a in a;"};
        int[] want = {0, 1, 2, 4, 3, 4, 1 + 3 + 1 + 4 * 2, 3, 3 + 4 + 5, 3 + 2 + 3, 1 + 2 + 1 + 2 * 2, 1 + 2 + 1 + 3 + 3, 1 + 4 + 1 + 4,
            1 + 1 + 2 + 3, 1 + 1 + 5 + 6};
        for (int i = 0; i < texts.length; i++) {
            Edges.due(s, "about(2) of " + texts[i], Edges.of(texts[i]).about(2), want[i]);
        }
    }

    // ---- promises 4 to 6

    private static void faultAsked() {
        String s = "Of the latest program() what 0: its FAULT (0: without; ahead of any, too), 1: its place (NONE)";
        WhyNot x = new WhyNot();
        int[] others = {-1, 2, 3, Integer.MIN_VALUE, Integer.MAX_VALUE};
        String[] texts = {"def a 1;", "def a #;", "def a;", "def a 1;def a 1;", "def a x;", many(401), "def b 2;", ""};
        int[] faults = {0, 1, 2, 3, 4, 5, 0, 0};
        int[] at = {-1, 6, 5, 12, 6, many(401).length(), -1, -1};
        Edges.due(s, "fault(0) ahead of any", x.fault(0), 0);
        Edges.due(s, "fault(1) ahead of any", x.fault(1), -1);
        for (int i = 0; i < texts.length; i++) {
            Edges.read(x, texts[i]);
            Edges.due(s, "fault(0) of " + texts[i], x.fault(0), faults[i]);
            Edges.due(s, "fault(1) of " + texts[i], x.fault(1), at[i]);
            for (int what : others) {
                Edges.due(s, "fault(" + what + ")", x.fault(what), -1);
            }
        }
    }

    private static void placeAsked() {
        String s = "NONE if there is none such, or for another what";
        int[] counts = {0, 1, 2, 39, 40};
        String[] texts = {"", "def a 1;", "def a head 1;", places(39), places(39) + "def b 1;"};
        int[] others = {-1, 4, 5, Integer.MIN_VALUE, Integer.MAX_VALUE};
        for (int i = 0; i < counts.length; i++) {
            WhyNot x = Edges.of(texts[i]);
            int[] none = {-1, counts[i], counts[i] + 1, 40, 64, Integer.MIN_VALUE, Integer.MAX_VALUE};
            for (int what = 0; what < 4; what++) {
                for (int place : none) {
                    Edges.due(s, "place(" + place + ", " + what + ") of " + counts[i], x.place(place, what), -1);
                }
                for (int place = 0; place < counts[i]; place++) {
                    Edges.due(s, "place(" + place + ", " + what + ") of " + counts[i], x.place(place, what) >= 0, true);
                }
            }
            for (int what : others) {
                Edges.due(s, "place(0, " + what + ") of " + counts[i], x.place(0, what), -1);
                Edges.due(s, "place(last, " + what + ") of " + counts[i], x.place(counts[i] - 1, what), -1);
            }
        }
    }

    public static void main(String[] args) {
        feedCounts();
        feedOrder();
        refusedFeed();
        end();
        longTexts();
        everyByte();
        blanksOrNot();
        wordLengths();
        numbers();
        ownWords();
        eachSort();
        letAndFun();
        eachKind();
        names();
        toldAgain();
        defs();
        forty();
        within();
        kindWords();
        faultOrder();
        askings();
        oneBehindAnother();
        askingsCounted();
        faultAsked();
        placeAsked();
        Edges.finish("TextEdgesTest");
    }
}
