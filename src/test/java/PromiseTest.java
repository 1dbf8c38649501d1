import java.nio.charset.StandardCharsets;

/** The promises 1 to 29, one method each: ordinary inputs, named edges, wrong inputs. */
public final class PromiseTest {
    private static int wrong = 0;
    private static int asked = 0;

    private static void due(int promise, String call, long got, long want) {
        asked++;
        if (got != want) {
            wrong++;
            System.out.println("promise " + promise + ": " + call + " answered " + got + ", due is " + want);
        }
    }

    private static void due(int promise, String call, boolean got, boolean want) {
        due(promise, call, got ? 1 : 0, want ? 1 : 0);
    }

    private static int word(byte[] b, int at) {
        int n = 0;
        for (int i = at; i < at + 4; i++) {
            n = n << 8 | (i < b.length ? b[i] & 255 : 32);
        }
        return n;
    }

    private static void tape(WhyNot x, String text) {
        byte[] b = text.getBytes(StandardCharsets.ISO_8859_1);
        for (int i = 0; i < b.length; i += 20) {
            x.feed(word(b, i), word(b, i + 4), word(b, i + 8), word(b, i + 12), word(b, i + 16));
        }
        x.end(b.length);
    }

    private static int read(WhyNot x, String text) {
        tape(x, text);
        return x.program();
    }

    private static WhyNot of(String text) {
        WhyNot x = new WhyNot();
        if (read(x, text) < 0) {
            wrong++;
            System.out.println("no PROGRAM: " + text + " (fault " + x.fault(0) + " at " + x.fault(1) + ")");
        }
        return x;
    }

    private static void fault(int which, int at, String text) {
        WhyNot x = new WhyNot();
        int places = read(x, text);
        due(4, "program() of " + text, places < 0, which != 0);
        due(5, "fault(0) of " + text, x.fault(0), which);
        due(5, "fault(1) of " + text, x.fault(1), at);
    }

    /** All numbers of a KIND, parted by blanks. */
    private static String kind(WhyNot x, int place) {
        StringBuilder b = new StringBuilder();
        for (int i = 0; i < 600 && x.kind(place, i) != -1; i++) {
            b.append(i == 0 ? "" : " ").append(x.kind(place, i));
        }
        return b.toString();
    }

    private static void kind(String want, int place, String text) {
        asked++;
        String got = kind(of(text), place);
        if (!got.equals(want)) {
            wrong++;
            System.out.println("promise 8: kind of " + place + " in " + text + " is told " + got + ", due is " + want);
        }
    }

    private static void run(int head, int number, String text) {
        WhyNot x = of(text);
        due(21, "run(0) of " + text, x.run(0), head);
        due(21, "run(1) of " + text, x.run(1), number);
    }

    private static String times(int n, String s) {
        return s.repeat(n);
    }

    private static void newObject() {
        WhyNot x = new WhyNot();
        for (int what = 0; what <= 6; what++) {
            due(1, "about(" + what + ")", x.about(what), 0);
        }
        due(1, "NONE", WhyNot.NONE, -1);
        due(1, "place(0, 0)", x.place(0, 0), -1);
        due(1, "fits()", x.fits(), 1);
        due(1, "cheapest()", x.cheapest(), 0);
        due(1, "mends()", x.mends(), 1);
        due(1, "cores()", x.cores(), 0);
        due(1, "core()", x.core(), 0);
        due(1, "run(0)", x.run(0), -1);
        due(1, "right(0)", x.right(0), -1);
        due(1, "trust(0, 1)", x.trust(0, 1), -1);
        due(1, "meets(0, 0)", x.meets(0, 0), -1);
        due(1, "back(0)", x.back(0), -1);
        due(1, "program()", x.program(), 0);
        due(1, "fault(0)", x.fault(0), 0);
    }

    private static void feed() {
        WhyNot x = new WhyNot();
        for (int i = 1; i <= 80; i++) {
            due(2, "feed no. " + i, x.feed(0x20202020, 0x20202020, 0x20202020, 0x20202020, 0x20202020), 20 * i);
        }
        due(2, "feed no. 81", x.feed(1, 2, 3, 4, 5), -1);
        due(2, "about(5)", x.about(5), 1600);
        due(2, "end(1581)", x.end(1581), 1581);
        due(2, "feed behind 1581", x.feed(1, 2, 3, 4, 5), -1);
        due(2, "end(1580)", x.end(1580), 1580);
        due(2, "feed behind 1580", x.feed(0x64656620, 0x61203132, 0x33343b20, -1, 0), 1600);
        due(2, "end(1591)", x.end(1591), 1591);
        due(2, "program()", x.program(), 1);
        due(2, "place(0, 3)", x.place(0, 3), 1234);
        due(2, "place(0, 1)", x.place(0, 1), 1586);
        x.feed(-1, 0, 0, 0, 0);
        due(2, "program() of a sign 255", x.program(), -1);
        due(2, "fault(0)", x.fault(0), 1);
        due(2, "fault(1)", x.fault(1), 0);
    }

    private static void end() {
        WhyNot x = new WhyNot();
        due(3, "end(0)", x.end(0), 0);
        due(3, "end(1)", x.end(1), -1);
        x.feed(0x64656620, 0x6120313b, 0x78787878, 0, 0);
        due(3, "end(-1)", x.end(-1), -1);
        due(3, "end(21)", x.end(21), -1);
        due(3, "end(min)", x.end(Integer.MIN_VALUE), -1);
        due(3, "about(5)", x.about(5), 20);
        due(3, "end(20)", x.end(20), 20);
        due(3, "end(8)", x.end(8), 8);
        due(3, "end(9)", x.end(9), -1);
        due(3, "about(5)", x.about(5), 8);
        due(3, "program()", x.program(), 1);
    }

    private static void program() {
        WhyNot x = of("def a add 1 yes;");
        x.trust(1, 7);
        x.right(0);
        x.later(5);
        x.image(1);
        tape(x, "def a");
        due(4, "program() at a FAULT", x.program(), -1);
        due(4, "about(5)", x.about(5), 0);
        due(4, "PLACES stay", x.about(1), 3);
        due(4, "TRUST stays", x.about(6), 9);
        due(4, "RIGHT ones stay", x.about(3), 1);
        due(4, "BOXES stay", x.back(1), 3);
        x.right(2);
        due(4, "program() of five PLACES", read(x, "def b let z 1 in add z z;"), 5);
        due(4, "about(0)", x.about(0), 1);
        due(4, "about(1)", x.about(1), 5);
        due(4, "about(3)", x.about(3), 0);
        due(4, "about(4)", x.about(4), 5);
        due(4, "about(5)", x.about(5), 0);
        due(4, "about(6)", x.about(6), 5);
        due(4, "BOXES are empty", x.back(1), -1);
        due(4, "fits()", x.fits(), 1);
        due(4, "program() of nothing", x.program(), 0);
        due(4, "about(1)", x.about(1), 0);
        due(4, "run(0)", x.run(0), -1);
        due(4, "program() of blanks", read(x, " \n \n"), 0);
    }

    private static void fault() {
        fault(0, -1, "def a 1;");
        fault(0, -1, "def\na\nfun x x;def b a;");
        fault(0, -1, "def abcdefgh fun z 9;");
        fault(0, -1, "def a fun z9;");
        fault(1, 4, "def abcdefghi 1;");
        fault(1, 6, "def a 12345;");
        fault(0, -1, "def a 9999;def b 0000;");
        fault(1, 6, "def a 1b;");
        fault(1, 7, "def a 1B;");
        fault(1, 5, "def a\t1;");
        fault(1, 8, "def a 1;:");
        fault(1, 0, "\u00e9");
        fault(2, 0, "1");
        fault(2, 3, "def");
        fault(2, 4, "def 1 1;");
        fault(2, 4, "def in 1;");
        fault(2, 4, "def num 1;");
        fault(0, -1, "def e 1;def kind e;def n kind;");
        fault(2, 6, "def a ;");
        fault(2, 7, "def a 1");
        fault(2, 9, "def a 1  ");
        fault(2, 8, "def a 1 1;");
        fault(2, 6, "def a num;");
        fault(2, 6, "def a in;");
        fault(2, 6, "def a def;");
        fault(2, 10, "def a fun 1 1;");
        fault(2, 10, "def a fun if 1;");
        fault(2, 12, "def a let x ;");
        fault(2, 13, "def a let x 1;");
        fault(2, 9, "def a as 1 1;");
        fault(2, 9, "def a as x 1;");
        fault(2, 13, "def a as row 1;");
        fault(2, 18, "def a as both num 1;");
        fault(3, 12, "def a 1;def a 2;");
        fault(3, 12, "def a 1;def a");
        fault(0, -1, "def a 1;def b fun a let a a in fun a a;");
        fault(4, 6, "def a a;");
        fault(4, 6, "def a b;def b 1;");
        fault(4, 12, "def a let x x in x;");
        fault(4, 13, "def a pair 1 x;");
        fault(4, 19, "def a pair fun x x x;");
        fault(4, 6, "def a x 12345;");
        fault(1, 6, "def a 12345 x;");
        defsAndPlaces();
        withinAndKinds();
        askings();
        WhyNot x = new WhyNot();
        due(5, "fault(0) ahead of any", x.fault(0), 0);
        due(5, "fault(1) ahead of any", x.fault(1), -1);
        due(5, "fault(2)", x.fault(2), -1);
        due(5, "fault(-1)", x.fault(-1), -1);
        read(x, "def a b;");
        due(5, "fault(0)", x.fault(0), 4);
        read(x, "def a 1;");
        due(5, "fault(0)", x.fault(0), 0);
        due(5, "fault(1)", x.fault(1), -1);
    }

    private static void defsAndPlaces() {
        StringBuilder eight = new StringBuilder();
        for (char c = 'a'; c < 'i'; c++) {
            eight.append("def ").append(c).append(" 1;");
        }
        fault(0, -1, eight.toString());
        fault(2, 64, eight + "def i 1;");
        fault(2, 64, eight + "def");
        fault(2, 64, eight + "1");
        // 39 and 40 PLACES in two DEFS, then the one too many
        String twenty = times(10, "pair 1 ") ;
        String a = "def a " + times(9, "add 1 ") + "1;";
        String b = "def b " + times(10, "add 1 ") + "1;";
        fault(0, -1, a + b);
        due(5, "40 PLACES", of(a + b).about(1), 40);
        fault(2, a.length() + b.length() + 6, a + b + "def c 1;");
        fault(2, a.length() + b.length() + 6, a + b + "def c x;");
        fault(1, a.length() + b.length() + 6, a + b + "def c 12345;");
        fault(2, 6 + twenty.length(), "def a " + twenty + ";");
    }

    private static void withinAndKinds() {
        fault(0, -1, "def a " + times(20, "head ") + "nil;");
        fault(2, 6 + 21 * 5, "def a " + times(21, "head ") + "nil;");
        fault(2, 6 + 21 * 5, "def a " + times(21, "head ") + "x;");
        fault(0, -1, "def a " + times(20, "fun x ") + "x;");
        fault(2, 6 + 21 * 6, "def a " + times(21, "fun x ") + "x;");
        fault(0, -1, "def a as " + times(19, "row ") + "num nil;");
        fault(2, 9 + 20 * 4, "def a as " + times(20, "row ") + "num nil;");
        fault(0, -1, "def a " + times(20, "as any ") + "nil;");
        fault(2, 9 + 19 * 4 + 7, "def a as " + times(19, "row ") + "any as any nil;");
        fault(2, 9 + 19 * 4 + 7, "def a as " + times(19, "row ") + "any as x nil;");
    }

    private static void askings() {
        String start = "def a 1;def b add a a;def c add b b;def d add c c;def e add d d;def f add e e;def g f;";
        String just = start + "def h as num add d add b 1;";
        String more = start + "def h add d add b add 1 1;";
        fault(0, -1, just);
        due(5, "400 ASKINGS", of(just).about(2), 400);
        fault(5, more.length(), more);
        fault(5, more.length() + 3, more + " \n ");
        fault(2, more.length(), more + ";");
    }

    private static void place() {
        String text = "def a fun x let y no in if yes call x y pair first x second y;"
                + "def b cons nil tail head add 7 less 0450 as num a;";
        WhyNot x = of(text);
        int[] sorts = {3, 4, 1, 5, 1, 6, 2, 2, 7, 8, 2, 9, 2, 11, 10, 13, 12, 14, 0, 15, 0, 16, 2};
        int at = 0;
        String[] words = {"fun", "let", "no", "if", "yes", "call", "x", "y", "pair", "first", "x", "second", "y", "cons",
            "nil", "tail", "head", "add", "7", "less", "0450", "as", "a;"};
        for (int p = 0; p < sorts.length; p++) {
            at = text.indexOf(words[p], p == 6 || p == 7 || p == 10 || p == 12 ? at + words[p - 1].length() : at);
            due(6, "place(" + p + ", 0)", x.place(p, 0), sorts[p]);
            due(6, "place(" + p + ", 1)", x.place(p, 1), at);
            due(6, "place(" + p + ", 2)", x.place(p, 2), p < 13 ? 0 : 1);
        }
        due(6, "yes", x.place(4, 3), 1);
        due(6, "no", x.place(2, 3), 0);
        due(6, "7", x.place(18, 3), 7);
        due(6, "0450", x.place(20, 3), 450);
        due(6, "nil", x.place(14, 3), 0);
        due(6, "place(23, 0)", x.place(23, 0), -1);
        due(6, "place(-1, 0)", x.place(-1, 0), -1);
        due(6, "place(0, 4)", x.place(0, 4), -1);
        due(6, "place(0, -1)", x.place(0, -1), -1);
        due(6, "place(max, 0)", x.place(Integer.MAX_VALUE, 0), -1);
    }

    private static void fits(int want, String text) {
        due(7, "fits() of " + text, of(text).fits(), want);
    }

    private static void fits() {
        fits(1, "def a add 1 2;");
        fits(0, "def a add 1 no;");
        fits(0, "def a add nil 1;");
        fits(1, "def a less 1 2;");
        fits(0, "def a less 1 yes;");
        fits(0, "def a add 1 less 1 2;");
        fits(1, "def a if yes 1 2;");
        fits(0, "def a if 1 1 2;");
        fits(0, "def a if yes 1 yes;");
        fits(1, "def a call fun x x 1;");
        fits(0, "def a call 1 1;");
        fits(0, "def a call fun x add x 1 yes;");
        fits(1, "def a first pair 1 yes;");
        fits(0, "def a first 1;");
        fits(0, "def a add 1 second pair 1 yes;");
        fits(1, "def a add 1 first pair 1 yes;");
        fits(1, "def a cons 1 cons 2 nil;");
        fits(0, "def a cons 1 cons yes nil;");
        fits(0, "def a cons 1 2;");
        fits(1, "def a head cons 1 nil;");
        fits(0, "def a head 1;");
        fits(0, "def a tail yes;");
        fits(0, "def a add 1 tail nil;");
        fits(1, "def a cons 1 tail cons 2 nil;");
        fits(0, "def a cons yes tail cons 2 nil;");
        fits(1, "def a as num 1;");
        fits(0, "def a as truth 1;");
        fits(0, "def a add as any yes 1;");
        fits(1, "def a pair as any 1 as any yes;");
        fits(0, "def a fun x call x x;");
        fits(1, "def a let f fun x x in pair call f 1 call f yes;");
        fits(0, "def a call fun f pair call f 1 call f yes fun x x;");
        fits(0, "def a fun y let f fun x y in pair add 1 call f 1 if call f yes 1 2;");
        fits(1, "def a fun x x;def b pair call a 1 call a yes;");
        fits(0, "def a let x add 1 yes in 2;");
        fits(1, "def a fun y let f fun x pair x y in pair call f 1 call f yes;");
        fits(0, "def a fun y let z y in pair add z 1 if z 1 2;");
        fits(1, "def a as row any nil;");
        fits(0, "def a as row num cons yes nil;");
        fits(1, "def a let f fun x as any x in pair call f 1 call f yes;");
    }

    private static void kind() {
        kind("0", 0, "def a 1;");
        kind("1", 0, "def a no;");
        kind("2 10", 0, "def a nil;");
        kind("4 10 10", 0, "def a fun x x;");
        kind("4 10 4 11 10", 0, "def a fun x fun y x;");
        kind("10", 2, "def a fun x fun y x;");
        kind("4 3 10 11 3 11 10", 0, "def a fun p pair second p first p;");
        kind("4 4 10 11 4 4 12 10 4 12 11", 0, "def a fun f fun g fun x call f call g x;");
        kind("3 0 1", 0, "def a pair 1 yes;");
        kind("2 3 0 10", 0, "def a as row both any any cons pair 1 head nil nil;");
        kind("4 0 10", 0, "def a as from num any fun x head nil;");
        // Of a DEF the NAME is made anew; as it stands itself it stays open.
        String id = "def a fun x x;def b call a 1;";
        kind("4 10 10", 0, id);
        kind("4 0 0", 3, id);
        kind("0", 2, id);
        WhyNot x = of("def a add 1 2;");
        due(8, "kind(0, 1)", x.kind(0, 1), -1);
        due(8, "kind(0, -1)", x.kind(0, -1), -1);
        due(8, "kind(3, 0)", x.kind(3, 0), -1);
        due(8, "kind(-1, 0)", x.kind(-1, 0), -1);
        due(8, "kind(0, max)", x.kind(0, Integer.MAX_VALUE), -1);
        due(8, "kind where all does not FIT", of("def a add 1 yes;").kind(1, 0), -1);
        longKind();
    }

    private static int preorder(int levels, int i) {
        int at = i;
        int level = levels;
        while (at > 0) {
            int half = (1 << level - 1) - 1;
            at = at <= half ? at - 1 : at - 1 - half;
            level--;
        }
        return level > 1 ? 3 : 0;
    }

    /** A KIND of 511 numbers, of which 500 are told. */
    private static void longKind() {
        String twice = "call fun x pair x x ";
        WhyNot x = of("def a pair 1 1;def b pair a a;def c pair b b;def d pair c c;def e " + times(4, twice) + "d;");
        for (int i = 0; i < 500; i += 7) {
            due(8, "kind(12, " + i + ")", x.kind(12, i), preorder(9, i));
        }
        due(8, "kind(12, 498)", x.kind(12, 498), preorder(9, 498));
        due(8, "kind(12, 499)", x.kind(12, 499), preorder(9, 499));
        due(8, "kind(12, 500)", x.kind(12, 500), -1);
        due(8, "kind(17, 254)", x.kind(17, 254), 0);
        due(8, "kind(17, 255)", x.kind(17, 255), -1);
    }

    /** The words of an as in as many copies as there may be. */
    private static void manyTold() {
        String told = "def a as " + times(8, "both any ") + "both num row any head nil;";
        WhyNot x = of(told + "def b pair a a;def c pair b b;def d pair c c;def e pair d d;def f pair e e;");
        due(8, "about(2)", x.about(2), 3 + 9 + 21 + 45 + 93 + 189);
        due(8, "fits()", x.fits(), 1);
        due(8, "kind(0, 19)", x.kind(0, 19), 18);
        due(8, "kind(0, 20)", x.kind(0, 20), -1);
        // f's KIND: 5 levels of pairs, then told kinds with open ones from 10 on
        due(8, "kind(15, 4)", x.kind(15, 4), 3);
        due(8, "kind(15, 6)", x.kind(15, 6), 10);
        due(8, "kind(15, 499)", x.kind(15, 499) >= 0, true);
        due(8, "kind(15, 500)", x.kind(15, 500), -1);
        due(8, "kind(2, 0)", x.kind(2, 0), 2);
    }

    private static void clashes() {
        WhyNot x = of("def a add 1 yes;");
        int[] want = {0, 0, 0, 0, 0, 1, 0, 1};
        for (int set = 0; set < 8; set++) {
            due(9, "clashes(" + set + ")", x.clashes(set), want[set]);
        }
        due(9, "clashes(8)", x.clashes(8), -1);
        due(9, "clashes(-1)", x.clashes(-1), -1);
        due(9, "clashes(min)", x.clashes(Long.MIN_VALUE), -1);
        due(9, "clashes(1L << 32)", x.clashes(1L << 32), -1);
        // 0 fun, 1 add, 2 x, 3 1, 4 call, 5 a, 6 yes: the copy asks only where its NAME does
        WhyNot y = of("def a fun x add x 1;def b call a yes;");
        due(9, "clashes without the NAME", y.clashes(0b1011111), 0);
        due(9, "clashes without the 1", y.clashes(0b1110111), 1);
        due(9, "clashes without the x", y.clashes(0b1111011), 0);
        due(9, "clashes without the fun", y.clashes(0b1111110), 0);
        due(9, "clashes of all", y.clashes(0b1111111), 1);
        WhyNot forty = of("def a " + times(9, "add 1 ") + "1;def b " + times(10, "add 1 ") + "no;");
        due(9, "clashes of the last two", forty.clashes(1L << 39 | 1L << 37), 1);
        due(9, "clashes of the last and the next but two", forty.clashes(1L << 39 | 1L << 35), 0);
        due(9, "clashes(1L << 40)", forty.clashes(1L << 40), -1);
    }

    private static void core() {
        due(10, "core() where all FITS", of("def a add 1 2;").core(), 0);
        due(10, "core()", of("def a add yes no;").core(), 0b101);
        // Each clash alone would do: that of the later PLACES is left.
        due(10, "core() of two", of("def a add 1 yes;def b add 1 no;").core(), 0b101000);
        due(10, "core() of a ring", of("def a fun x call x x;").core(), 0b1110);
        due(10, "core() through a DEF", of("def a fun x add x 1;def b call a yes;").core(), 0b1110111);
        WhyNot forty = of("def a " + times(9, "add 1 ") + "1;def b " + times(10, "add 1 ") + "no;");
        due(10, "core() of 40", forty.core(), 1L << 39 | 1L << 37);
    }

    private static void meets() {
        WhyNot x = of("def id fun x x;def p pair call id 1 call id yes;def n nil;");
        due(11, "meets(0, 0)", x.meets(0, 0), 1);
        due(11, "meets(0, 4)", x.meets(0, 4), 1);
        due(11, "meets(4, 0)", x.meets(4, 0), 1);
        due(11, "meets(4, 7)", x.meets(4, 7), 0);
        due(11, "meets(0, 1)", x.meets(0, 1), 0);
        due(11, "meets(1, 9)", x.meets(1, 9), 1);
        due(11, "meets(9, 5)", x.meets(9, 5), 0);
        due(11, "meets(10, 0)", x.meets(10, 0), -1);
        due(11, "meets(0, -1)", x.meets(0, -1), -1);
        due(11, "meets where all does not FIT", of("def a add 1 yes;").meets(1, 1), -1);
        // In its own round a fun's NAME is of one kind alone: row of it is another.
        WhyNot y = of("def a fun x cons x nil;");
        due(11, "meets(1, 2)", y.meets(1, 2), 0);
        due(11, "meets(1, 3)", y.meets(1, 3), 1);
        due(11, "fits() behind it", y.fits(), 1);
        due(11, "kind(2, 0) behind it", y.kind(2, 0), 10);
    }

    private static void cores() {
        WhyNot x = of("def a add yes no;");
        due(12, "cores()", x.cores(), 2);
        due(13, "coreAt(0)", x.coreAt(0), 0b011);
        due(13, "coreAt(1)", x.coreAt(1), 0b101);
        due(13, "coreAt(2)", x.coreAt(2), -1);
        due(13, "coreAt(-1)", x.coreAt(-1), -1);
        due(12, "cores() where all FITS", of("def a add 1 1;").cores(), 0);
        due(13, "coreAt(0) where all FITS", of("def a add 1 1;").coreAt(0), -1);
        WhyNot y = of("def a if 1 2 yes;");
        due(12, "cores()", y.cores(), 2);
        due(13, "coreAt(0)", y.coreAt(0), 0b0011);
        due(13, "coreAt(1)", y.coreAt(1), 0b1101);
        String twelve = "def a pair add 1 yes pair add 1 yes pair 3 yes;";
        due(12, "12 PLACES", of(twelve).about(1), 11);
        due(12, "cores() of 11", of(twelve).cores(), 2);
        String more = "def a pair add 1 yes pair add 1 yes pair head 3 yes;";
        due(12, "cores() of 12", of(more).cores(), 3);
        due(13, "coreAt(2) of 12", of(more).coreAt(2), 0b11 << 9);
        String spent = "def a pair add 1 yes pair add 1 yes pair head head 3 yes;";
        due(12, "cores() of 13", of(spent).cores(), -2);
        due(13, "coreAt(0) of 13", of(spent).coreAt(0), -1);
    }

    private static void trust() {
        WhyNot x = of("def a add 1 yes;");
        due(14, "trust(0, 100)", x.trust(0, 100), 1);
        due(14, "trust(0, 3)", x.trust(0, 3), 100);
        due(14, "trust(0, 0)", x.trust(0, 0), -1);
        due(14, "trust(0, 101)", x.trust(0, 101), -1);
        due(14, "trust(0, -5)", x.trust(0, -5), -1);
        due(14, "trust(3, 1)", x.trust(3, 1), -1);
        due(14, "trust(-1, 1)", x.trust(-1, 1), -1);
        due(14, "trust(0, 3)", x.trust(0, 3), 3);
        due(14, "about(6)", x.about(6), 5);
        x.apply(0);
        due(14, "about(6) behind apply", x.about(6), 3);
    }

    private static void cheapest() {
        WhyNot x = of("def a add yes no;");
        due(15, "cheapest()", x.cheapest(), 1);
        x.trust(0, 2);
        due(15, "cheapest() of like TRUST", x.cheapest(), 1);
        x.trust(0, 3);
        due(15, "cheapest()", x.cheapest(), 0b110);
        x.trust(2, 2);
        due(15, "cheapest()", x.cheapest(), 1);
        x.trust(0, 100);
        due(15, "cheapest()", x.cheapest(), 0b110);
        due(15, "cheapest() where all FITS", of("def a 1;").cheapest(), 0);
        String eight = times(8, "pair add 1 yes ");
        String six = "def a pair add 1 yes pair add 1 yes pair add 1 yes pair add 1 yes pair add 1 yes pair 1 ";
        due(15, "PLACES", of(six + "head 2;").about(1), 24);
        due(15, "cheapest() of 24", of(six + "head 2;").cheapest(), 0b010000100010001000100010L);
        due(15, "cheapest() of 25", of(six + "head head 2;").cheapest(), -2);
        due(15, "cheapest() of 25 that fit", of("def a " + times(12, "add 1 ") + "1;").cheapest(), -2);
        due(15, "cheapest() of 23 that fit", of("def a " + times(11, "add 1 ") + "1;").cheapest(), 0);
        due(15, "cheapest() of 33", of("def a " + eight + "1;").cheapest(), -2);
    }

    private static void mends() {
        WhyNot x = of("def a add yes no;");
        due(16, "mends()", x.mends(), 2);
        due(17, "mendAt(0)", x.mendAt(0), 1);
        due(17, "mendAt(1)", x.mendAt(1), 6);
        due(17, "mendAt(2)", x.mendAt(2), -1);
        due(17, "mendAt(-1)", x.mendAt(-1), -1);
        WhyNot fit = of("def a add 1 1;");
        due(16, "mends() where all FITS", fit.mends(), 1);
        due(17, "mendAt(0) where all FITS", fit.mendAt(0), 0);
        due(17, "mendAt(1) where all FITS", fit.mendAt(1), -1);
        WhyNot y = of("def a pair add 1 yes pair add 1 yes pair head 3 yes;");
        due(16, "mends() of 12", y.mends(), 8);
        due(17, "mendAt(0) of 12", y.mendAt(0), 1 << 1 | 1 << 5 | 1 << 9);
        due(17, "mendAt(7) of 12", y.mendAt(7), 1 << 3 | 1 << 7 | 1 << 10);
        WhyNot spent = of("def a pair add 1 yes pair add 1 yes pair head head 3 yes;");
        due(16, "mends() of 13", spent.mends(), -2);
        due(17, "mendAt(0) of 13", spent.mendAt(0), -1);
        due(16, "mends() of 13 that fit", of("def a " + times(6, "add 1 ") + "1;").mends(), -2);
    }

    private static void hint(WhyNot x, int hint, int place, int sort, int i) {
        due(19, "hint(" + hint + ", 0)", x.hint(hint, 0), place);
        due(19, "hint(" + hint + ", 1)", x.hint(hint, 1), sort);
        due(19, "hint(" + hint + ", 2)", x.hint(hint, 2), i);
    }

    private static void hints() {
        due(18, "hints() where all FITS", of("def a 1;").hints(), 0);
        due(19, "hint(0, 0) where all FITS", of("def a 1;").hint(0, 0), -1);
        // 0 call, 1 1, 2 fun, 3 x: both change places
        WhyNot swap = of("def a call 1 fun x x;");
        due(18, "hints()", swap.hints(), 2);
        hint(swap, 0, 0, 0, 0);
        hint(swap, 1, 0, 4, 0);
        due(19, "hint(2, 0)", swap.hint(2, 0), -1);
        due(19, "hint(-1, 0)", swap.hint(-1, 0), -1);
        due(19, "hint(0, 3)", swap.hint(0, 3), -1);
        due(19, "hint(0, -1)", swap.hint(0, -1), -1);
        // The NAMES that can be meant at the last y: y, x (the nearest alone), then the DEFS c, b.
        WhyNot names = of("def b 1;def c yes;def x 3;def d fun x fun x fun y if y add 1 y 2;");
        for (int p = 0; p < names.about(1); p++) {
            names.trust(p, 50);
        }
        names.trust(10, 1);
        due(18, "the NAME is the CHEAPEST", names.cheapest(), 1 << 10);
        due(18, "hints()", names.hints(), 2);
        hint(names, 0, 10, 1, 1);
        hint(names, 1, 10, 1, 3);
        // Of like words the nearest alone, each word for itself: y, x, z, then the DEFS x (not), c, b.
        WhyNot more = of("def b 1;def c yes;def x 3;def d fun z fun x fun x fun y if y add 1 y 2;");
        more.trust(7, 9);
        more.trust(8, 9);
        more.trust(9, 9);
        due(18, "the NAME is the CHEAPEST", more.cheapest(), 1 << 11);
        due(18, "hints()", more.hints(), 3);
        hint(more, 0, 11, 1, 1);
        hint(more, 1, 11, 1, 2);
        hint(more, 2, 11, 1, 4);
        // In its first e a let's NAME can't be meant, in its last it can.
        WhyNot let = of("def t yes;def n 4;def d let q add t 1 in q;");
        let.trust(3, 9);
        let.trust(0, 9);
        due(18, "hints()", let.hints(), 1);
        hint(let, 0, 4, 1, 0);
        WhyNot last = of("def t yes;def d let q 1 in add t q;");
        last.trust(3, 9);
        last.trust(0, 9);
        due(18, "hints()", last.hints(), 1);
        hint(last, 0, 4, 1, 0);
        WhyNot number = of("def a if 1 2 3;");
        number.trust(0, 9);
        due(18, "hints()", number.hints(), 1);
        hint(number, 0, 1, 2, 0);
        WhyNot truth = of("def a add no 3;");
        truth.trust(0, 9);
        due(18, "hints()", truth.hints(), 1);
        hint(truth, 0, 1, 3, 0);
        WhyNot nil = of("def a head 3;");
        nil.trust(0, 9);
        due(18, "hints()", nil.hints(), 1);
        hint(nil, 0, 1, 4, 0);
        String six = "def a pair add 1 yes pair add 1 yes pair add 1 yes pair add 1 yes pair add 1 yes pair 1 ";
        due(18, "hints() of 24", of(six + "head 2;").hints(), 0);
        due(18, "hints() of 25", of(six + "head head 2;").hints(), -2);
        due(19, "hint(0, 0) of 25", of(six + "head head 2;").hint(0, 0), -1);
        manyAskings();
        hintsAnew();
    }

    private static void swaps() {
        WhyNot pair = of("def a add first pair yes 1 2;");
        pair.trust(0, 9);
        pair.trust(1, 9);
        pair.trust(3, 9);
        due(18, "hints() of a pair", pair.hints(), 1);
        hint(pair, 0, 2, 0, 0);
        due(20, "apply(0)", pair.apply(0), 6);
        due(20, "run(1)", pair.run(1), 3);
        due(20, "place(3, 3)", pair.place(3, 3), 1);
        due(20, "place(3, 1)", pair.place(3, 1), 25);
        due(20, "place(4, 1)", pair.place(4, 1), 21);
        WhyNot cons = of("def a cons cons 5 nil 7;");
        due(18, "hints() of a cons", cons.hints(), 2);
        hint(cons, 0, 0, 0, 0);
        hint(cons, 1, 0, 4, 0);
        due(20, "apply(0)", cons.apply(0), 5);
        due(20, "place(1, 3)", cons.place(1, 3), 7);
        due(20, "place(3, 3)", cons.place(3, 3), 5);
        due(20, "run(1)", cons.run(1), 2);
    }

    /** What was found out before holds no more behind trust, program(), back; a FAULT changes nothing. */
    private static void hintsAnew() {
        WhyNot x = of("def a add 1 yes;");
        hint(x, 0, 0, 4, 0);
        x.trust(0, 4);
        hint(x, 0, 2, 3, 0);
        tape(x, "def b as row row truth as from any any c;");
        due(18, "program()", x.program(), -1);
        hint(x, 0, 2, 3, 0);
        due(20, "apply(0)", x.apply(0), 3);
        due(20, "place(2, 3)", x.place(2, 3), 0);
        WhyNot y = of("def a as both num truth pair 1 2;");
        y.trust(0, 9);
        y.trust(1, 9);
        tape(y, "def b as row row row truth c;");
        due(18, "program()", y.program(), -1);
        due(18, "hints()", y.hints(), 1);
        hint(y, 0, 3, 2, 0);
        due(20, "apply(0)", y.apply(0), 4);
        due(20, "place(3, 3)", y.place(3, 3), 1);
        due(20, "kind(0, 2)", y.kind(0, 2), 1);
        WhyNot z = of("def a tail 77;");
        z.trust(0, 9);
        hint(z, 0, 1, 4, 0);
        due(20, "apply(0)", z.apply(0), 2);
        due(20, "place(1, 0)", z.place(1, 0), 10);
        due(20, "place(1, 1)", z.place(1, 1), 0);
        due(20, "place(1, 3)", z.place(1, 3), 0);
        due(20, "apply(0) first", of("def a add 1 yes;").apply(0), 1);
        WhyNot again = of("def a add 1 yes;");
        again.hints();
        again.cores();
        read(again, "def a less no 2;");
        hint(again, 0, 0, 4, 0);
        due(17, "mendAt(1)", again.mendAt(1), 2);
        read(again, "def a cons 1 2;");
        due(13, "coreAt(0) first", again.coreAt(0), 5);
        read(again, "def a add 1 yes;");
        due(25, "left(0) first", again.left(0), 2);
        read(again, "def a less no 2;");
        due(26, "sure(0) first", again.sure(0), 0);
        due(12, "cores()", again.cores(), 1);
        again.image(0);
        read(again, "def a 1;");
        due(12, "cores()", again.cores(), 0);
        again.image(0);
        read(again, "def a head 1;");
        due(28, "back(0)", again.back(0), -1);
        due(10, "core()", again.core(), 3);
        due(7, "fits()", again.fits(), 0);
    }

    /** A NAME is not told to become one by which there were more than 400 ASKINGS. */
    private static void manyAskings() {
        String start = "def a 1;def b add a a;def c add b b;def d add c c;def e add d d;def f add e e;";
        WhyNot x = of(start + "def g yes;def h add e add g 1;");
        due(18, "about(2)", x.about(2), 234 + 1 + 1 + 62 + 1 + 2 + 1);
        for (int p = 0; p < x.about(1); p++) {
            x.trust(p, 50);
        }
        int g = x.about(1) - 2;
        x.trust(g, 1);
        due(18, "cheapest()", x.cheapest(), 1L << g);
        // f is the 1st of those (g is the 0th): by it there are 425
        due(18, "hints()", x.hints(), 5);
        hint(x, 0, g, 1, 2);
        hint(x, 4, g, 1, 6);
    }

    private static void apply() {
        WhyNot x = of("def a call 1 fun x x;");
        x.right(1);
        x.trust(2, 30);
        x.later(4);
        x.image(0);
        due(20, "apply(2)", x.apply(2), -1);
        due(20, "apply(-1)", x.apply(-1), -1);
        due(20, "TRUST as before", x.about(6), 33);
        due(20, "apply(0)", x.apply(0), 4);
        int[] sorts = {6, 3, 2, 0};
        int[] starts = {6, 13, 19, 11};
        for (int p = 0; p < 4; p++) {
            due(20, "place(" + p + ", 0)", x.place(p, 0), sorts[p]);
            due(20, "place(" + p + ", 1)", x.place(p, 1), starts[p]);
        }
        due(20, "place(3, 3)", x.place(3, 3), 1);
        due(20, "about(3)", x.about(3), 0);
        due(20, "about(4)", x.about(4), 4);
        due(20, "about(6)", x.about(6), 4);
        due(20, "fits()", x.fits(), 1);
        due(20, "run(1)", x.run(1), 1);
        due(20, "apply(0) where all FITS", x.apply(0), -1);
        due(20, "back(0)", x.back(0), 4);
        due(20, "about(6) behind back", x.about(6), 33);
        due(20, "apply(1)", x.apply(1), 1);
        due(20, "nil", x.place(0, 0), 10);
        due(20, "nil begins at", x.place(0, 1), 0);
        due(20, "about(2)", x.about(2), 1);
        due(20, "run(0)", x.run(0), 2);
        WhyNot y = of("def a if 1 2 3;");
        y.trust(0, 9);
        due(20, "apply(0)", y.apply(0), 4);
        due(20, "yes", y.place(1, 0), 1);
        due(20, "its value", y.place(1, 3), 1);
        due(20, "it begins at", y.place(1, 1), 9);
        due(20, "run(1)", y.run(1), 2);
        WhyNot spent = of("def a head 1;def b " + times(12, "add 1 ") + "1;");
        due(20, "apply(0) of 27 PLACES", spent.apply(0), -1);
    }

    private static void run() {
        run(0, 7, "def a add 3 4;");
        run(1, 1, "def a less 3 4;");
        run(1, 0, "def a less 4 4;");
        run(2, 0, "def a nil;");
        run(2, 2, "def a tail cons 1 cons yes cons nil nil;");
        run(3, 0, "def a pair 1 2;");
        run(4, 0, "def a fun x add x yes;");
        run(0, 2, "def a second pair 1 2;");
        run(0, 1, "def a head cons 1 nil;");
        run(0, 5, "def a if less 1 2 5 add yes yes;");
        run(0, 6, "def a if no add yes yes 6;");
        run(0, 3, "def a let x add yes yes in 3;");
        run(-2, 0, "def a let x add yes yes in x;");
        run(0, 9, "def a call call fun x fun y add x y 4 5;");
        run(0, 4, "def a call let x 4 in fun y call fun x x x 5;");
        run(0, 4, "def z call fun x let y x in call fun x y 9 4;");
        run(0, 8, "def a 8;def b call fun x a 1;");
        run(0, 12, "def a 8;def b call fun x let y add x a in call fun x y 9 4;");
        run(-2, 0, "def a if 1 2 3;");
        run(-2, 0, "def a call 1 2;");
        run(-2, 0, "def a first 1;");
        run(-2, 0, "def a second nil;");
        run(-2, 0, "def a cons 1 2;");
        run(-2, 0, "def a head pair 1 2;");
        run(-2, 0, "def a tail 1;");
        run(-2, 0, "def a less 1 yes;");
        run(-3, 0, "def a head nil;");
        run(-3, 0, "def a tail nil;");
        run(-3, 0, "def a call 1 head nil;");
        run(-2, 0, "def a add add 1 yes head nil;");
        run(-3, 0, "def a cons head nil 1;");
        run(0, 1, "def a as truth 1;");
        run(0, 1, "def a add 1 yes;def b 1;");
        run(-4, 0, "def w call fun x call x x fun x call x x;");
        due(21, "run(0) without DEFS", new WhyNot().run(0), -1);
        due(21, "run(1) without DEFS", new WhyNot().run(1), -1);
        due(21, "run(2)", of("def a 1;").run(2), -1);
        due(21, "run(-1)", of("def a 1;").run(-1), -1);
        runLong();
        runWrapping();
    }

    /** PLACES are counted to 4,000, and 150 may stand round one. */
    private static void runLong() {
        // Each n below 7 works out 24 PLACES and twice what n + 1 does, 7 itself 7; each first call 8 more.
        String twice = "def f fun s fun n if less n 7 let r call call s s add n 1 in add r r as any as any 1;";
        String both = "add call call f f 0 call call f f 6;";
        run(0, 130, twice + "def m as any " + both);
        run(-4, 0, twice + "def m as any as any " + both);
        run(-4, 0, twice + "def m as any as any as any " + both);
        // The n-th call stands round two more PLACES than the one before; three stand in the last.
        String deep = "def f fun s fun n if less n 73 call call s s add n 1 n;";
        run(0, 73, deep + "def m call call f f 0;");
        run(0, 73, deep + "def m as num call call f f 0;");
        run(-4, 0, deep + "def m as num as num call call f f 0;");
        run(0, 73, deep + "def m as num as num call call f f 1;");
        // The e of NAMES count, too.
        run(-4, 0, deep + "def m as num call call f f 0;def n m;");
        run(0, 73, deep + "def m as num call call f f 1;def n m;");
        run(-4, 0, deep + "def m let x call call f f 0 in as num x;");
        String t = "def t fun f fun x call f call f x;def i fun x add x 1;";
        run(0, 16, t + "def m call call t call t call t call t i 0;");
        run(0, 19998, "def m let x 9999 in add x x;");
    }

    /** What is too great for an int goes on from below. */
    private static void runWrapping() {
        String t = "def d fun x add x x;def t fun f fun x call f call f x;def e call t call t call t d;";
        run(0, 4 * 256 * 256, t + "def m call e call e 4;");
        run(0, 8191 << 24, t + "def m call e call e call e 8191;");
        run(1, 1, t + "def m less call e call e call e 8191 0;");
    }

    private static void right() {
        WhyNot x = of("def a add yes no;");
        due(22, "right(3)", x.right(3), -1);
        due(22, "right(-1)", x.right(-1), -1);
        for (int i = 0; i < 30; i++) {
            due(22, "right no. " + i, x.right(i % 3), i);
        }
        due(22, "right no. 30", x.right(0), -1);
        due(22, "about(3)", x.about(3), 30);
        due(22, "untell(29)", x.untell(29), true);
        due(22, "right no. 30 behind untell", x.right(0), -1);
        due(22, "about(3) behind untell", x.about(3), 30);
        due(23, "untell(29)", x.untell(29), false);
        due(23, "untell(30)", x.untell(30), false);
        due(23, "untell(-1)", x.untell(-1), false);
        due(23, "untell(0)", x.untell(0), true);
        x.program();
        due(23, "untell(1) behind program()", x.untell(1), false);
    }

    private static void later() {
        WhyNot x = new WhyNot();
        due(24, "later(0)", x.later(0), 0);
        due(24, "later(-1)", x.later(-1), -1);
        due(24, "later(1001)", x.later(1001), -1);
        due(24, "later(max)", x.later(Integer.MAX_VALUE), -1);
        for (int i = 1; i < 100; i++) {
            due(24, "later(1000)", x.later(1000), 1000 * i);
        }
        due(24, "later(999)", x.later(999), 99999);
        due(24, "later(2)", x.later(2), -1);
        due(24, "later(1)", x.later(1), 100000);
        due(24, "later(1)", x.later(1), -1);
        due(24, "later(0)", x.later(0), 100000);
        due(24, "about(4)", x.about(4), 100000);
    }

    private static void left() {
        // LEAST MENDS: {0}, {1, 2}
        WhyNot x = of("def a add yes no;");
        x.later(10);
        due(25, "right(0)", x.right(0), 0);
        due(25, "left(9)", x.left(9), 2);
        due(26, "sure(9)", x.sure(9), 0);
        due(25, "left(10)", x.left(10), 1);
        due(26, "sure(10)", x.sure(10), 6);
        x.later(5);
        x.right(2);
        due(25, "left(15)", x.left(15), 0);
        due(26, "sure(15)", x.sure(15), 0);
        due(25, "left(14)", x.left(14), 1);
        x.later(5);
        x.untell(0);
        due(25, "left(19)", x.left(19), 0);
        due(25, "left(20)", x.left(20), 1);
        due(26, "sure(20)", x.sure(20), 1);
        due(25, "left(1000000)", x.left(1000000), 1);
        due(25, "left(-5)", x.left(-5), 2);
        due(25, "right(0)", x.right(0), 2);
        x.untell(2);
        due(25, "told and untold at one time", x.left(20), 1);
        WhyNot fit = of("def a 1;");
        fit.right(0);
        due(25, "left(0) where all FITS", fit.left(0), 1);
        due(26, "sure(0) where all FITS", fit.sure(0), 0);
        WhyNot spent = of("def a pair add 1 yes pair add 1 yes pair head head 3 yes;");
        due(25, "left(0) of 13", spent.left(0), -2);
        due(26, "sure(0) of 13", spent.sure(0), -2);
    }

    private static void image() {
        WhyNot x = of("def a add 1 yes;");
        due(27, "image(-1)", x.image(-1), -1);
        due(27, "image(3)", x.image(3), -1);
        due(28, "back(0)", x.back(0), -1);
        due(28, "back(3)", x.back(3), -1);
        due(28, "back(-1)", x.back(-1), -1);
        x.trust(1, 20);
        due(27, "image(0)", x.image(0), 3);
        x.trust(0, 5);
        due(27, "image(2)", x.image(2), 3);
        x.right(0);
        x.later(3);
        tape(x, "def");
        due(28, "back(0)", x.back(0), 3);
        due(28, "about(3)", x.about(3), 0);
        due(28, "about(4)", x.about(4), 3);
        due(28, "about(5)", x.about(5), 3);
        due(28, "about(6)", x.about(6), 22);
        due(28, "cheapest()", x.cheapest(), 1);
        due(28, "back(2)", x.back(2), 3);
        due(28, "about(6)", x.about(6), 26);
        due(28, "cheapest()", x.cheapest(), 4);
        due(28, "apply(0)", x.apply(0), 3);
        due(27, "image(0)", x.image(0), 3);
        x.back(2);
        due(28, "fits()", x.fits(), 0);
        x.back(0);
        due(28, "fits()", x.fits(), 1);
        due(28, "back(1)", x.back(1), -1);
        due(28, "about(6) stays", x.about(6), 3);
        WhyNot empty = new WhyNot();
        due(27, "image(1) of nothing", empty.image(1), 0);
        due(28, "back(1) to nothing", empty.back(1), 0);
    }

    private static void about() {
        WhyNot x = of("def id fun x x;def p pair call id 1 call id yes;");
        x.trust(3, 40);
        x.right(3);
        x.right(3);
        x.later(12);
        tape(x, "some");
        int[] want = {2, 9, 13, 2, 12, 4, 48};
        for (int what = 0; what < want.length; what++) {
            due(29, "about(" + what + ")", x.about(what), want[what]);
        }
        due(29, "about(7)", x.about(7), -1);
        due(29, "about(-1)", x.about(-1), -1);
        due(29, "ASKINGS of lets", of("def m let f fun x x in pair call f 1 call f yes;").about(2), 14);
        due(29, "ASKINGS within ASKINGS", of("def a 1;def b let x a in pair x x;").about(2), 1 + 1 + 2 + 1 + 2 * 3);
    }

    public static void main(String[] args) {
        newObject();
        feed();
        end();
        program();
        fault();
        place();
        fits();
        kind();
        manyTold();
        clashes();
        core();
        meets();
        cores();
        trust();
        cheapest();
        mends();
        hints();
        swaps();
        apply();
        run();
        right();
        later();
        left();
        image();
        about();
        System.out.println("PromiseTest: " + asked + " answers, " + wrong + " wrong");
        if (wrong != 0) {
            System.exit(1);
        }
    }
}
