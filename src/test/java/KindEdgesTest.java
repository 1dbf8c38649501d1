import java.util.ArrayList;
import java.util.List;

/** Terms 2 and 3, promises 7 to 20: what PLACES ask, the 500 numbers of a KIND, SPENT, TRUST and HINTS. */
public final class KindEdgesTest {
    private static final int[] NO_PLACES = {-1, -2, 40, 41, 64, Integer.MIN_VALUE, Integer.MAX_VALUE};

    // ---- what each PLACE asks, no less and no more: the KINDS are the most open ones

    private static void kind(String sentence, String text, int place, int... want) {
        WhyNot x = Edges.of(text);
        for (int i = 0; i < want.length; i++) {
            Edges.due(sentence, "kind(" + place + ", " + i + ") of " + text, x.kind(place, i), want[i]);
        }
        Edges.due(sentence, "kind(" + place + ", " + want.length + ") of " + text, x.kind(place, want.length), -1);
        Edges.due(sentence, "kind(" + place + ", -1) of " + text, x.kind(place, -1), -1);
    }

    private static void asks() {
        kind("N: it is num", "def a 1;", 0, 0);
        kind("yes, no: truth", "def a yes;", 0, 1);
        kind("yes, no: truth", "def a no;", 0, 1);
        kind("fun: it is from the NAME's kind to e's", "def a fun x yes;", 0, 4, 10, 1);
        kind("NAME of a fun: it is that kind", "def a fun x x;", 0, 4, 10, 10);
        kind("NAME of a fun: it is that kind", "def a fun x fun y x;", 0, 4, 10, 4, 11, 10);
        kind("NAME of a let: it is the kind of its e", "def a let x yes in x;", 0, 1);
        kind("NAME of a DEF: it is the kind of its e", "def a yes;def b a;", 1, 1);
        kind("made anew", "def a let i fun x x in pair i i;", 0, 3, 4, 10, 10, 4, 11, 11);
        kind("made anew", "def i fun x x;def b pair i i;", 2, 3, 4, 10, 10, 4, 11, 11);
        kind("made anew", "def i fun x x;def b call i 1;", 0, 4, 10, 10);
        kind("made anew", "def a as row any nil;def b pair a a;", 2, 3, 2, 10, 2, 11);
        kind("kinds of funs round it stay the same ones", "def a fun x let y x in pair y y;", 0, 4, 10, 3, 10, 10);
        kind("kinds of funs round it stay the same ones", "def a fun x let f fun y pair x y in pair f f;", 0,
                4, 10, 3, 4, 11, 3, 10, 11, 4, 12, 3, 10, 12);
        kind("kinds of funs round it stay the same ones", "def a fun x let y x in pair add y 1 x;", 0, 4, 0, 3, 0, 0);
        kind("let: it is that of its last e", "def a let x 1 in yes;", 0, 1);
        kind("(the first e asks, too)", "def a fun x let y add x 1 in x;", 0, 4, 0, 0);
        kind("if: the first is truth, the others are of one kind, which it has", "def a fun c fun x fun y if c x y;",
                0, 4, 1, 4, 10, 4, 10, 10);
        kind("call: the first is from the second's kind to its own", "def a fun f fun x call f x;", 0, 4, 4, 10, 11, 4, 10, 11);
        kind("pair: it is both of theirs", "def a fun x fun y pair x y;", 0, 4, 10, 4, 11, 3, 10, 11);
        kind("first: its e is both of it and any", "def a fun p first p;", 0, 4, 3, 10, 11, 10);
        kind("second: its e is both of any and it", "def a fun p second p;", 0, 4, 3, 10, 11, 11);
        kind("nil: it is a row of any", "def a nil;", 0, 2, 10);
        kind("nil: it is a row of any", "def a pair nil nil;", 0, 3, 2, 10, 2, 11);
        kind("cons: the second is a row of the first's kind, and it is of the second's kind", "def a fun x fun y cons x y;",
                0, 4, 10, 4, 2, 10, 2, 10);
        kind("head: its e is a row of its kind", "def a fun x head x;", 0, 4, 2, 10, 10);
        kind("tail: its e is a row of any, and it is of that kind", "def a fun x tail x;", 0, 4, 2, 10, 2, 10);
        kind("add: both e and it are num", "def a fun x fun y add x y;", 0, 4, 0, 4, 0, 0);
        kind("less: both are num, it is truth", "def a fun x fun y less x y;", 0, 4, 0, 4, 0, 1);
        kind("as: it is the told kind, and its e's kind is the same", "def a fun x as num x;", 0, 4, 0, 0);
        kind("as: it is the told kind, and its e's kind is the same", "def a fun x as truth x;", 0, 4, 1, 1);
        kind("as: it is the told kind, and its e's kind is the same", "def a fun x as any x;", 0, 4, 10, 10);
        kind("as: it is the told kind, and its e's kind is the same", "def a fun x as from row num both truth any x;", 0,
                4, 4, 2, 0, 3, 1, 10, 4, 2, 0, 3, 1, 10);
        kind("(each any is open, for itself)", "def a fun x as both any any x;", 0, 4, 3, 10, 11, 3, 10, 11);
        kind("(each any is open, for itself)", "def a as both any any pair 1 yes;", 0, 3, 0, 1);
        kind("as: it is the told kind", "def a fun x as num x;def b fun x as row truth x;", 0, 4, 0, 0);
        kind("as: it is the told kind", "def a fun x as num x;def b fun x as row truth x;", 3, 4, 2, 1, 2, 1);
        kind("as: it is the told kind", "def a fun x as both num truth as any x;", 2, 3, 0, 1);
        kind("as: it is the told kind", "def a fun x fun y pair as row num x as from truth any y;", 0,
                4, 2, 0, 4, 4, 1, 10, 3, 2, 0, 4, 1, 10);
        kind("open ones 10, 11, .. as they come in it", "def a fun x fun y fun z pair z pair x y;", 0,
                4, 10, 4, 11, 4, 12, 3, 12, 3, 10, 11);
        kind("open ones 10, 11, .. as they come in it", "def a fun x fun y fun z pair z pair x y;", 3, 3, 10, 3, 11, 12);
        kind("open ones 10, 11, .. as they come in it", "def a fun x fun y fun z pair z pair x y;", 7, 10);
    }

    /** The LEAST clashes are those due, by number. */
    private static void cores(String sentence, String text, long... want) {
        WhyNot x = Edges.of(text);
        Edges.due(sentence, "fits() of " + text, x.fits(), want.length == 0 ? 1 : 0);
        Edges.due(sentence, "cores() of " + text, x.cores(), want.length);
        for (int i = 0; i < want.length; i++) {
            Edges.due(sentence, "coreAt(" + i + ") of " + text, x.coreAt(i), want[i]);
            Edges.due(sentence, "clashes of it", x.clashes(want[i]), 1);
            for (int place = 0; place < x.about(1); place++) {
                if ((want[i] >>> place & 1) == 1) {
                    Edges.due(sentence, "clashes of it without " + place, x.clashes(want[i] & ~(1L << place)), 0);
                }
            }
        }
        Edges.due(sentence, "coreAt(" + want.length + ") of " + text, x.coreAt(want.length), -1);
        Edges.due(sentence, "coreAt(-1) of " + text, x.coreAt(-1), -1);
    }

    private static void clashesOfSorts() {
        cores("N: it is num", "def a if 1 2 3;", 0b0011);
        cores("yes, no: truth", "def a add yes no;", 0b011, 0b101);
        cores("fun: it is from the NAME's kind to e's", "def a add fun x x 1;", 0b0011);
        cores("fun: it is from the NAME's kind to e's", "def a add call fun x yes 1 2;", 0b01111);
        cores("NAME of a fun: it is that kind", "def a fun x if x add x 1 2;", 0b11110);
        cores("NAME of a let: it is the kind of its e", "def a let x 1 in if x 2 3;", 0b1110);
        cores("NAME of a DEF: it is the kind of its e", "def a 1;def b if a 2 3;", 0b0111);
        cores("let: it is that of its last e", "def a add let x 1 in yes 2;", 0b01011);
        cores("(the first e asks, too)", "def a let x add yes 1 in 2;", 0b00110);
        cores("if: the first is truth, the others are of one kind, which it has", "def a if 1 2 yes;", 0b0011, 0b1101);
        cores("if: the first is truth, the others are of one kind, which it has", "def a add if no 2 yes 3;", 0b010011,
                0b011010);
        cores("call: the first is from the second's kind to its own", "def a call 1 2;", 0b011);
        cores("call: the first is from the second's kind to its own", "def a call fun x add x 1 yes;", 0b101111);
        cores("pair: it is both of theirs", "def a add pair 1 2 3;", 0b00011);
        cores("pair: it is both of theirs", "def a head pair 1 2;", 0b0011);
        cores("first: its e is both of it and any", "def a first 1;", 0b11);
        cores("first: its e is both of it and any", "def a add first pair yes 1 2;", 0b001111);
        cores("second: its e is both of any and it", "def a add second pair 1 yes 2;", 0b010111);
        cores("nil: it is a row of any", "def a add nil 1;", 0b011);
        cores("cons: the second is a row of the first's kind", "def a cons 1 2;", 0b101);
        cores("cons: the second is a row of the first's kind", "def a cons yes cons 1 nil;", 0b1111);
        cores("cons: it is of the second's kind", "def a add cons 1 nil 2;", 0b00011);
        cores("head: its e is a row of its kind", "def a head 1;", 0b11);
        cores("head: its e is a row of its kind", "def a add head cons yes nil 1;", 0b001111);
        cores("tail: its e is a row of any, and it is of that kind", "def a tail 1;", 0b11);
        cores("tail: its e is a row of any, and it is of that kind", "def a cons yes tail cons 1 nil;", 0b011111);
        cores("add: both e and it are num", "def a if add 1 2 3 4;", 0b000011);
        cores("less: both are num, it is truth", "def a add less yes no 1;", 0b00011, 0b00110, 0b01010);
        cores("as: it is the told kind", "def a if as num fun x x 1 2;", 0b000011, 0b000110);
        cores("as: its e's kind is the same", "def a as num yes;", 0b11);
        cores("as: it is the told kind", "def a pair as num 1 as truth yes;");
        cores("as: it is the told kind", "def a pair as truth yes as num no;", 0b11000);
        cores("as: it is the told kind", "def a as num yes;def b as truth no;", 0b0011);
        cores("(each any is open, for itself)", "def a as both any any pair 1 yes;");
        cores("a kind within itself is none", "def a fun x call x x;", 0b1110);
        cores("a kind within itself is none", "def a fun x cons x x;", 0b1110);
        cores("a kind within itself is none", "def a fun x pair x 1;");
        cores("kinds of funs round it stay the same ones", "def a fun x let y x in pair add y 1 if y 1 2;",
                0b110110100);
    }

    // ---- KINDS of 500 numbers

    /** Numbers of a KIND by what is called on 1: d makes a pair of it and itself, r a row of it. */
    private static List<Integer> numbers(String calls) {
        List<Integer> kind = new ArrayList<>(List.of(0));
        for (int i = calls.length() - 1; i >= 0; i--) {
            List<Integer> more = new ArrayList<>();
            more.add(calls.charAt(i) == 'd' ? 3 : 2);
            more.addAll(kind);
            if (calls.charAt(i) == 'd') {
                more.addAll(kind);
            }
            kind = more;
        }
        return kind;
    }

    private static void fiveHundred(String calls, int length) {
        String s = "as a row of numbers, 500 at most (what is behind is left out)";
        StringBuilder b = new StringBuilder("def d fun x pair x x;def r fun x cons x nil;def m ");
        for (char c : calls.toCharArray()) {
            b.append("call ").append(c).append(' ');
        }
        b.append("1;");
        List<Integer> want = numbers(calls);
        Edges.due(s, "numbers told of in " + b, want.size(), length);
        WhyNot x = Edges.of(b.toString());
        for (int i = 490; i < 510; i++) {
            Edges.due(s, "kind(8, " + i + ") of " + length, x.kind(8, i), i < 500 && i < length ? want.get(i) : -1);
        }
        Edges.due(s, "kind(8, max)", x.kind(8, Integer.MAX_VALUE), -1);
        Edges.due(s, "kind(8, min)", x.kind(8, Integer.MIN_VALUE), -1);
        WhyNot y = Edges.of(b.toString());
        for (int i = 0; i < 490; i++) {
            Edges.due(s, "kind(8, " + i + ") of " + length, y.kind(8, i), i < length ? want.get(i) : -1);
        }
    }

    private static void fiveHundreds() {
        String close = "ddrddrdrdrdr";
        fiveHundred("ddrddrdrdrdr", 499);
        fiveHundred("r" + close, 500);
        fiveHundred("rr" + close, 501);
        fiveHundred("d" + close, 999);
    }

    private static void kindAsked() {
        String s = "NONE if all does not FIT, there is none such, or it has not so many";
        WhyNot x = Edges.of("def a add 1 2;");
        for (int place : NO_PLACES) {
            Edges.due(s, "kind(" + place + ", 0)", x.kind(place, 0), -1);
            Edges.due(s, "meets(" + place + ", 0)", x.meets(place, 0), -1);
            Edges.due(s, "meets(0, " + place + ")", x.meets(0, place), -1);
        }
        Edges.due(s, "kind(2, 0)", x.kind(2, 0), 0);
        Edges.due(s, "kind(3, 0)", x.kind(3, 0), -1);
        Edges.due(s, "meets(2, 2)", x.meets(2, 2), 1);
        Edges.due(s, "meets(3, 2)", x.meets(3, 2), -1);
        Edges.due(s, "meets(2, 3)", x.meets(2, 3), -1);
        WhyNot y = Edges.of("def a add 1 yes;");
        for (int place = 0; place < 3; place++) {
            Edges.due(s, "kind where all does not FIT", y.kind(place, 0), -1);
            Edges.due(s, "meets where all does not FIT", y.meets(place, place), -1);
        }
    }

    private static void meets() {
        String s = "whether they could be of one kind, too, beside what all ASK";
        // 0 fun, 1 fun, 2 pair, 3 x, 4 pair, 5 y, 6 add, 7 x, 8 1
        WhyNot x = Edges.of("def a fun x fun y pair x pair y add x 1;");
        Edges.due(s, "an open one and num", x.meets(5, 8), 1);
        Edges.due(s, "each is asked for itself: open and from", x.meets(5, 0), 0);
        Edges.due(s, "num and both", x.meets(3, 2), 0);
        Edges.due(s, "like ones", x.meets(3, 7), 1);
        Edges.due(s, "it is asked again", x.meets(5, 8), 1);
        Edges.due(s, "an open one within the other", x.meets(5, 4), 0);
        Edges.due(s, "kind(5, 0) behind it", x.kind(5, 0), 10);
        // made anew a NAME's e does not bind it
        WhyNot y = Edges.of("def i fun x x;def b pair call i 1 call i yes;");
        Edges.due(s, "as they stand themselves", y.meets(0, 4), 1);
        Edges.due(s, "as they stand themselves", y.meets(0, 7), 1);
        Edges.due(s, "as they stand themselves", y.meets(4, 7), 0);
        Edges.due(s, "as they stand themselves", y.meets(1, 5), 1);
        Edges.due(s, "as they stand themselves", y.meets(1, 8), 1);
        Edges.due(s, "in its own round a row of it", Edges.of("def a fun x cons x nil;").meets(2, 3), 0);
    }

    private static void sets() {
        String s = "1 if a set of PLACES CLASHES, else 0; NONE if one can't be";
        String forty = "def a " + Edges.times(9, "add 1 ") + "1;def b " + Edges.times(10, "add 1 ") + "no;";
        String[] texts = {"", "def a yes;", "def a add 1 yes;", forty};
        int[] counts = {0, 1, 3, 40};
        for (int i = 0; i < texts.length; i++) {
            WhyNot x = Edges.of(texts[i]);
            long all = (1L << counts[i]) - 1;
            Edges.due(s, "clashes(0) of " + counts[i], x.clashes(0), 0);
            Edges.due(s, "clashes(all) of " + counts[i], x.clashes(all), counts[i] < 3 ? 0 : 1);
            Edges.due(s, "clashes(all and one more) of " + counts[i], x.clashes(all + 1), -1);
            for (int bit = 0; bit < 64; bit++) {
                Edges.due(s, "clashes(1L << " + bit + ") of " + counts[i], x.clashes(1L << bit), bit < counts[i] ? 0 : -1);
                if (bit >= counts[i]) {
                    Edges.due(s, "clashes(all | 1L << " + bit + ")", x.clashes(all | 1L << bit), -1);
                }
            }
            Edges.due(s, "clashes(-1)", x.clashes(-1L), -1);
            Edges.due(s, "clashes(max)", x.clashes(Long.MAX_VALUE), -1);
        }
    }

    private static void core() {
        String s = "each is left out without which the rest CLASHES still: what is left (none, if all FITS)";
        Edges.due(s, "core() of none", new WhyNot().core(), 0);
        Edges.due(s, "core() where all FITS", Edges.of("def a 1;").core(), 0);
        Edges.due(s, "core() of two", Edges.of("def a head 1;").core(), 0b11);
        Edges.due(s, "core(): the later of two", Edges.of("def a add yes no;").core(), 0b101);
        Edges.due(s, "core(): the later of three", Edges.of("def a pair head 1 pair head 1 head 1;").core(), 0b11000000);
        String forty = "def a head 1;def b pair " + Edges.times(17, "add 1 ") + "1 head no;";
        Edges.due(s, "core() of 40", Edges.of(forty).about(1), 40);
        Edges.due(s, "core() of 40", Edges.of(forty).core(), 3L << 38);
    }

    // ---- SPENT

    /** So many PLACES, of which 1 and 3 clash, and the third last and the last; or none does. */
    private static String adds(int n, boolean clash) {
        String last = clash ? "yes" : "2";
        return "def a pair add 1 " + last + " " + Edges.times(n - 8, "tail ") + "nil;def b add 3 " + last + ";";
    }

    private static void leastOnes() {
        String s = "SPENT: all LEAST ones are asked for of at most 12 PLACES";
        for (int n = 10; n <= 14; n++) {
            boolean spent = n > 12;
            WhyNot x = Edges.of(adds(n, true));
            Edges.due(s, "about(1)", x.about(1), n);
            Edges.due(s, "cores() of " + n, x.cores(), spent ? -2 : 2);
            Edges.due(s, "coreAt(0) of " + n, x.coreAt(0), spent ? -1 : 0b1010);
            Edges.due(s, "coreAt(1) of " + n, x.coreAt(1), spent ? -1 : 0b101L << n - 3);
            Edges.due(s, "coreAt(2) of " + n, x.coreAt(2), -1);
            Edges.due(s, "mends() of " + n, x.mends(), spent ? -2 : 4);
            Edges.due(s, "mendAt(0) of " + n, x.mendAt(0), spent ? -1 : 0b10 | 1L << n - 3);
            Edges.due(s, "mendAt(3) of " + n, x.mendAt(3), spent ? -1 : 0b1000 | 1L << n - 1);
            Edges.due(s, "mendAt(4) of " + n, x.mendAt(4), -1);
            Edges.due(s, "mendAt(-1) of " + n, x.mendAt(-1), -1);
            Edges.due(s, "left(0) of " + n, x.left(0), spent ? -2 : 4);
            Edges.due(s, "sure(0) of " + n, x.sure(0), spent ? -2 : 0);
            x.right(1);
            x.right(n - 3);
            Edges.due(s, "left(0) of " + n, x.left(0), spent ? -2 : 1);
            Edges.due(s, "sure(0) of " + n, x.sure(0), spent ? -2 : 0b1000 | 1L << n - 1);
            Edges.due(s, "core() of " + n, x.core(), 0b101L << n - 3);
            Edges.due(s, "clashes() of " + n, x.clashes(0b1010), 1);
            WhyNot y = Edges.of(adds(n, false));
            Edges.due(s, "cores() of " + n + " that fit", y.cores(), spent ? -2 : 0);
            Edges.due(s, "coreAt(0) of " + n + " that fit", y.coreAt(0), -1);
            Edges.due(s, "mends() of " + n + " that fit", y.mends(), spent ? -2 : 1);
            Edges.due(s, "mendAt(0) of " + n + " that fit", y.mendAt(0), spent ? -1 : 0);
            Edges.due(s, "left(0) of " + n + " that fit", y.left(0), spent ? -2 : 1);
            Edges.due(s, "sure(0) of " + n + " that fit", y.sure(0), spent ? -2 : 0);
        }
    }

    private static void leastOfNone() {
        String s = "An empty PROGRAM: all FITS";
        WhyNot x = new WhyNot();
        Edges.due(s, "cores()", x.cores(), 0);
        Edges.due(s, "coreAt(0)", x.coreAt(0), -1);
        Edges.due(s, "mends()", x.mends(), 1);
        Edges.due(s, "mendAt(0)", x.mendAt(0), 0);
        Edges.due(s, "mendAt(1)", x.mendAt(1), -1);
        Edges.due(s, "fits()", x.fits(), 1);
        Edges.due(s, "kind(0, 0)", x.kind(0, 0), -1);
        Edges.due(s, "meets(0, 0)", x.meets(0, 0), -1);
        Edges.due(s, "core()", x.core(), 0);
    }

    private static void cheapestOnes() {
        String s = "SPENT: the cheapest one, HINTS of at most 24";
        for (int n = 22; n <= 27; n++) {
            boolean spent = n > 24;
            WhyNot y = Edges.of("def a pair head 1 " + Edges.times(n - 21, "tail ") + "nil;def b "
                    + Edges.times(8, "add 1 ") + "2;");
            Edges.due(s, "about(1)", y.about(1), n);
            Edges.due(s, "cheapest() of " + n, y.cheapest(), spent ? -2 : 0b10);
            Edges.due(s, "hints() of " + n, y.hints(), spent ? -2 : 1);
            Edges.due(s, "hint(0, 0) of " + n, y.hint(0, 0), spent ? -1 : 1);
            Edges.due(s, "hint(0, 1) of " + n, y.hint(0, 1), spent ? -1 : 4);
            Edges.due(s, "hint(0, 2) of " + n, y.hint(0, 2), spent ? -1 : 0);
            Edges.due(s, "apply(0) of " + n, y.apply(0), spent ? -1 : n - 1);
            Edges.due(s, "about(1) behind it", y.about(1), spent ? n : n - 1);
            Edges.due(s, "fits() behind it", y.fits(), spent ? 0 : 1);
            WhyNot z = Edges.of("def a " + Edges.times(n - 20, "tail ") + "nil;def b " + Edges.times(9, "add 1 ") + "1;");
            Edges.due(s, "about(1)", z.about(1), n);
            Edges.due(s, "cheapest() of " + n + " that fit", z.cheapest(), spent ? -2 : 0);
            Edges.due(s, "hints() of " + n + " that fit", z.hints(), spent ? -2 : 0);
            Edges.due(s, "hint(0, 0) of " + n + " that fit", z.hint(0, 0), -1);
            Edges.due(s, "apply(0) of " + n + " that fit", z.apply(0), -1);
        }
    }

    // ---- TRUST and CHEAPEST

    private static void trust() {
        String s = "TRUST of a PLACE is 1 .. 100 (1 at first); NONE, doing nothing, if one can't be";
        WhyNot x = Edges.of("def a add 1 yes;");
        int[] no = {0, -1, 101, 102, 1000, Integer.MIN_VALUE, Integer.MAX_VALUE};
        for (int place = 0; place < 3; place++) {
            Edges.due(s, "trust(" + place + ", 100)", x.trust(place, 100), 1);
            Edges.due(s, "trust(" + place + ", 1)", x.trust(place, 1), 100);
            Edges.due(s, "trust(" + place + ", 99)", x.trust(place, 99), 1);
            for (int t : no) {
                Edges.due(s, "trust(" + place + ", " + t + ")", x.trust(place, t), -1);
            }
            Edges.due(s, "about(6)", x.about(6), 99 + 2);
            Edges.due(s, "trust(" + place + ", 1)", x.trust(place, 1), 99);
        }
        int[] none = {3, -1, 40, Integer.MIN_VALUE, Integer.MAX_VALUE};
        for (int place : none) {
            Edges.due(s, "trust(" + place + ", 5)", x.trust(place, 5), -1);
        }
        Edges.due(s, "trust(0, 5) of none", new WhyNot().trust(0, 5), -1);
        Edges.due(s, "about(6)", x.about(6), 3);
        WhyNot forty = Edges.of("def a " + Edges.times(9, "add 1 ") + "1;def b " + Edges.times(10, "add 1 ") + "no;");
        Edges.due(s, "about(6) of 40", forty.about(6), 40);
        for (int place = 0; place < 40; place++) {
            Edges.due(s, "trust(" + place + ", 100)", forty.trust(place, 100), 1);
        }
        Edges.due(s, "about(6) of 40", forty.about(6), 4000);
        Edges.due(s, "trust(40, 100) of 40", forty.trust(40, 100), -1);
    }

    private static void cheapest() {
        String s = "the MEND of least TRUST; of like ones the least number";
        WhyNot x = Edges.of("def a add yes no;");
        int[][] trusts = {{1, 1, 1}, {2, 1, 1}, {3, 1, 1}, {100, 50, 50}, {100, 50, 49}, {100, 100, 1}, {99, 50, 49}};
        long[] want = {1, 1, 6, 1, 6, 1, 1};
        for (int i = 0; i < trusts.length; i++) {
            for (int place = 0; place < 3; place++) {
                x.trust(place, trusts[i][place]);
            }
            Edges.due(s, "cheapest() no. " + i, x.cheapest(), want[i]);
        }
        // 0 call, 1 fun, 2 pair, 3 add, 4 x, 5 1, 6 add, 7 x, 8 1, 9 yes: {3 or 4, 6 or 7} against {9}
        WhyNot y = Edges.of("def a call fun x pair add x 1 add x 1 yes;");
        y.trust(0, 100);
        y.trust(1, 100);
        Edges.due(s, "9 is least", y.cheapest(), 1 << 9);
        y.trust(9, 2);
        Edges.due(s, "9 is like two others: their number is less", y.cheapest(), 1 << 3 | 1 << 6);
        y.trust(3, 2);
        Edges.due(s, "4 and 6", y.cheapest(), 1 << 4 | 1 << 6);
        y.trust(6, 2);
        Edges.due(s, "4 and 7", y.cheapest(), 1 << 4 | 1 << 7);
        y.trust(7, 2);
        Edges.due(s, "9 is least again", y.cheapest(), 1 << 9);
        y.trust(9, 3);
        Edges.due(s, "4 and 6 as 4 and 7", y.cheapest(), 1 << 4 | 1 << 6);
        Edges.due(s, "cheapest() of none", new WhyNot().cheapest(), 0);
    }

    /** TRUST goes before the number even where the number is the greatest that can be. */
    private static void cheapestOfLast() {
        String s = "the MEND of least TRUST; of like ones the least number";
        // 21 add, 22 yes, 23 no: {21} against {22, 23}
        WhyNot x = Edges.of("def a " + Edges.times(10, "pair 1 ") + "as any add yes no;");
        Edges.due(s, "about(1)", x.about(1), 24);
        int[][] trusts = {{1, 1, 1}, {2, 1, 1}, {3, 1, 1}, {100, 50, 50}, {100, 50, 49}, {100, 49, 50}, {100, 100, 1}};
        boolean[] both = {false, false, true, false, true, true, false};
        for (int i = 0; i < trusts.length; i++) {
            for (int k = 0; k < 3; k++) {
                x.trust(21 + k, trusts[i][k]);
            }
            Edges.due(s, "cheapest() of the last no. " + i, x.cheapest(), both[i] ? 3 << 22 : 1 << 21);
        }
        for (int place = 0; place < 24; place++) {
            x.trust(place, 100);
        }
        Edges.due(s, "about(6)", x.about(6), 2400);
        Edges.due(s, "cheapest() of 100 each", x.cheapest(), 1 << 21);
        x.trust(22, 1);
        Edges.due(s, "cheapest() of 100 and 1", x.cheapest(), 1 << 21);
        x.trust(23, 98);
        Edges.due(s, "cheapest() of 1 and 98", x.cheapest(), 3 << 22);
        x.trust(23, 99);
        Edges.due(s, "cheapest() of 1 and 99", x.cheapest(), 1 << 21);
    }

    // ---- HINTS

    private static void hint(String sentence, WhyNot x, int hint, int place, int sort, int i) {
        Edges.due(sentence, "hint(" + hint + ", 0)", x.hint(hint, 0), place);
        Edges.due(sentence, "hint(" + hint + ", 1)", x.hint(hint, 1), sort);
        Edges.due(sentence, "hint(" + hint + ", 2)", x.hint(hint, 2), i);
    }

    /** The program with all PLACES of TRUST 50 but one of 1. */
    private static WhyNot blaming(int place, String text) {
        WhyNot x = Edges.of(text);
        for (int p = 0; p < x.about(1); p++) {
            x.trust(p, p == place ? 1 : 50);
        }
        Edges.due("CHEAPEST", "cheapest() of " + text, x.cheapest(), 1L << place);
        return x;
    }

    private static void hintAsked() {
        String s = "NONE if there is none such, or for another what";
        WhyNot x = blaming(0, "def a call 1 fun x x;");
        Edges.due(s, "hints()", x.hints(), 2);
        int[] none = {-1, 2, 3, 39, 40, 41, Integer.MIN_VALUE, Integer.MAX_VALUE};
        for (int hint : none) {
            for (int what = 0; what < 3; what++) {
                Edges.due(s, "hint(" + hint + ", " + what + ")", x.hint(hint, what), -1);
            }
            Edges.due(s, "apply(" + hint + ")", x.apply(hint), -1);
        }
        int[] others = {-1, 3, 4, Integer.MIN_VALUE, Integer.MAX_VALUE};
        for (int what : others) {
            Edges.due(s, "hint(0, " + what + ")", x.hint(0, what), -1);
            Edges.due(s, "hint(1, " + what + ")", x.hint(1, what), -1);
        }
        hint(s, x, 0, 0, 0, 0);
        hint(s, x, 1, 0, 4, 0);
        String empty = "0 if all FITS";
        Edges.due(empty, "hints()", Edges.of("def a 1;").hints(), 0);
        Edges.due(empty, "hints() of none", new WhyNot().hints(), 0);
        Edges.due(empty, "hint(0, 0)", Edges.of("def a 1;").hint(0, 0), -1);
        Edges.due(empty, "apply(0)", Edges.of("def a 1;").apply(0), -1);
    }

    private static void hintSorts() {
        String swap = "0 both e of a call, pair, cons change places";
        WhyNot call = blaming(0, "def a call 1 fun x x;");
        hint(swap, call, 0, 0, 0, 0);
        WhyNot pair = blaming(2, "def a add first pair yes 1 2;");
        Edges.due(swap, "hints()", pair.hints(), 1);
        hint(swap, pair, 0, 2, 0, 0);
        WhyNot cons = blaming(0, "def a cons nil 1;");
        Edges.due(swap, "hints()", cons.hints(), 2);
        hint(swap, cons, 0, 0, 0, 0);
        hint(swap, cons, 1, 0, 4, 0);
        // add, less and if ask the same of both: changing places never helps
        String like = "by which all FITS";
        WhyNot add = blaming(0, "def a add 1 yes;");
        Edges.due(like, "hints() of add", add.hints(), 1);
        hint(like, add, 0, 0, 4, 0);
        WhyNot less = blaming(0, "def a less yes 1;");
        Edges.due(like, "hints() of less", less.hints(), 1);
        hint(like, less, 0, 0, 4, 0);
        WhyNot when = blaming(0, "def a if 1 2 3;");
        Edges.due(like, "hints() of if", when.hints(), 1);
        hint(like, when, 0, 0, 4, 0);
        String n = "2 an N becomes yes";
        WhyNot number = blaming(1, "def a if 0 2 3;");
        Edges.due(n, "hints()", number.hints(), 1);
        hint(n, number, 0, 1, 2, 0);
        Edges.due(n, "apply(0)", number.apply(0), 4);
        Edges.due(n, "place(1, 3)", number.place(1, 3), 1);
        String truth = "3 a yes or no becomes 0";
        String[] told = {"yes", "no"};
        for (String t : told) {
            WhyNot x = blaming(2, "def a add 1 " + t + ";");
            Edges.due(truth, "hints()", x.hints(), 1);
            hint(truth, x, 0, 2, 3, 0);
            Edges.due(truth, "apply(0)", x.apply(0), 3);
            Edges.due(truth, "place(2, 0)", x.place(2, 0), 0);
            Edges.due(truth, "place(2, 3)", x.place(2, 3), 0);
        }
        String nil = "4 nil stands in its place";
        WhyNot row = blaming(1, "def a head pair 1 2;");
        Edges.due(nil, "hints()", row.hints(), 1);
        hint(nil, row, 0, 1, 4, 0);
        Edges.due(nil, "apply(0)", row.apply(0), 2);
        Edges.due(nil, "place(1, 0)", row.place(1, 0), 10);
        Edges.due("no change helps", "hints()", blaming(1, "def a call nil 1;").hints(), 0);
    }

    /** As many NAMES as 24 PLACES can tell at one: 7 DEFS, a let and 13 funs; 40 HINTS are never reached. */
    private static void manyNames() {
        String s = "(the i-th, 0 .., of those that can be meant there, the nearest first)";
        StringBuilder b = new StringBuilder();
        for (char c = 'a'; c <= 'g'; c++) {
            b.append("def d").append(c).append(" nil;");
        }
        b.append("def m let t yes in ");
        for (char c = 'a'; c <= 'm'; c++) {
            b.append("fun f").append(c).append(' ');
        }
        WhyNot x = blaming(23, b + "head t;");
        Edges.due(s, "about(1)", x.about(1), 24);
        Edges.due(s, "hints()", x.hints(), 21);
        for (int i = 0; i < 20; i++) {
            hint(s, x, i, 23, 1, i < 13 ? i : i + 1);
        }
        hint(s, x, 20, 23, 4, 0);
        Edges.due(s, "hint(21, 0)", x.hint(21, 0), -1);
        // fa is told first: it is the farthest of the funs
        Edges.due(s, "apply(12)", x.apply(12), 24);
        Edges.due(s, "kind(9, 0)", x.kind(9, 0), 4);
        Edges.due(s, "kind(9, 1)", x.kind(9, 1), 2);
        Edges.due(s, "kind(10, 1)", x.kind(10, 1) >= 10, true);
    }

    private static void likeWords() {
        String s = "of like words the nearest alone";
        // x (the inner fun), y, then the DEFS z, w: x and y are told nearer than by their DEFS
        WhyNot x = blaming(8, "def w nil;def x nil;def y nil;def z 1;def m fun y fun x fun x tail z;");
        Edges.due(s, "hints()", x.hints(), 4);
        hint(s, x, 0, 8, 1, 0);
        hint(s, x, 1, 8, 1, 1);
        hint(s, x, 2, 8, 1, 3);
        hint(s, x, 3, 8, 4, 0);
        x.image(0);
        Edges.due(s, "apply(0)", x.apply(0), 9);
        Edges.due(s, "kind(5, 1): the outer x", x.kind(5, 1), 10);
        Edges.due(s, "kind(6, 1): the inner x", x.kind(6, 1), 2);
        x.back(0);
        Edges.due(s, "apply(1)", x.apply(1), 9);
        Edges.due(s, "kind(4, 1): y", x.kind(4, 1), 2);
        String own = "another one";
        WhyNot y = blaming(2, "def a 1;def b tail a;");
        Edges.due(own, "hints(): nil alone", y.hints(), 1);
        hint(own, y, 0, 2, 4, 0);
        WhyNot z = blaming(3, "def a 1;def b nil;def c tail a;");
        Edges.due(own, "hints()", z.hints(), 2);
        hint(own, z, 0, 3, 1, 0);
        hint(own, z, 1, 3, 4, 0);
        WhyNot w = blaming(3, "def b nil;def a 1;def c tail a;");
        Edges.due(own, "hints()", w.hints(), 2);
        hint(own, w, 0, 3, 1, 1);
        hint(own, w, 1, 3, 4, 0);
        WhyNot let = blaming(4, "def a nil;def c let a 1 in tail a;");
        Edges.due(s, "hints(): nil alone", let.hints(), 1);
        hint(s, let, 0, 4, 4, 0);
        String first = "let's first e not";
        WhyNot early = blaming(3, "def a 1;def c let b tail a in b;");
        Edges.due(first, "hints(): nil alone", early.hints(), 1);
        hint(first, early, 0, 3, 4, 0);
    }

    private static void fourHundred() {
        String s = "(None by which ASKINGS are more than 400.)";
        String start = "def a 1;def b add a a;def c add b b;def d add c c;def e add d d;def f add e e;def g yes;";
        WhyNot x = blaming(18, start + "def h add g as num add b d;");
        Edges.due(s, "about(2)", x.about(2), 276);
        Edges.due(s, "hints()", x.hints(), 6);
        for (int i = 0; i < 6; i++) {
            hint(s, x, i, 18, 1, i + 1);
        }
        Edges.due(s, "apply(0)", x.apply(0), 23);
        Edges.due(s, "about(2)", x.about(2), 400);
        Edges.due(s, "fits()", x.fits(), 1);
        Edges.due(s, "run(1)", x.run(1), 32 + 2 + 8);
        WhyNot y = blaming(18, start + "def h add g as num as num add b d;");
        Edges.due(s, "about(1)", y.about(1), 24);
        Edges.due(s, "about(2)", y.about(2), 277);
        Edges.due(s, "hints()", y.hints(), 5);
        for (int i = 0; i < 5; i++) {
            hint(s, y, i, 18, 1, i + 2);
        }
        Edges.due(s, "apply(0)", y.apply(0), 24);
        Edges.due(s, "about(2)", y.about(2), 401 - 64);
    }

    private static void hintOrder() {
        String s = "By PLACES, then sorts, then i";
        // 0 fun, 1 fun, 2 call, 3 b, 4 less, 5 add, 6 b, 7 b, 8 nil
        WhyNot x = Edges.of("def m fun a fun b call b less add b b nil;");
        int[] trusts = {1, 3, 1, 2, 1, 3, 2, 1, 1};
        for (int p = 0; p < trusts.length; p++) {
            x.trust(p, trusts[p]);
        }
        Edges.due(s, "cheapest()", x.cheapest(), 0b10100);
        Edges.due(s, "hints()", x.hints(), 2);
        hint(s, x, 0, 2, 4, 0);
        hint(s, x, 1, 4, 4, 0);
        Edges.due(s, "apply(1)", x.apply(1), 5);
        Edges.due(s, "place(4, 0)", x.place(4, 0), 10);
        Edges.due(s, "fits()", x.fits(), 1);
    }

    // ---- apply

    private static void sortsOf(String sentence, WhyNot x, int... sorts) {
        Edges.due(sentence, "about(1)", x.about(1), sorts.length);
        for (int p = 0; p < sorts.length; p++) {
            Edges.due(sentence, "place(" + p + ", 0)", x.place(p, 0), sorts[p]);
        }
        Edges.due(sentence, "place behind the last", x.place(sorts.length, 0), -1);
    }

    private static void startsOf(String sentence, WhyNot x, int... starts) {
        for (int p = 0; p < starts.length; p++) {
            Edges.due(sentence, "place(" + p + ", 1)", x.place(p, 1), starts[p]);
        }
    }

    private static void applied() {
        String s = "PLACES are numbered anew, as the text would be read then";
        String begin = "where PLACES begin in the text stays as it was, of nil 0";
        // 0 nil, 1 pair, 2 call, 3 add, 4 1, 5 2, 6 fun, 7 x, 8 nil
        WhyNot swap = blaming(2, "def n nil;def a pair call add 1 2 fun x x nil;");
        Edges.due(s, "apply(0)", swap.apply(0), 9);
        sortsOf(s, swap, 10, 7, 6, 3, 2, 14, 0, 0, 10);
        startsOf(begin, swap, 6, 16, 21, 34, 40, 26, 30, 32, 42);
        int[] defs = {0, 1, 1, 1, 1, 1, 1, 1, 1};
        for (int p = 0; p < defs.length; p++) {
            Edges.due(s, "place(" + p + ", 2)", swap.place(p, 2), defs[p]);
        }
        WhyNot nil = blaming(2, "def n nil;def a pair call add 1 2 fun x x nil;");
        Edges.due(s, "hints()", nil.hints(), 2);
        Edges.due(s, "apply(1)", nil.apply(1), 4);
        sortsOf(s, nil, 10, 7, 10, 10);
        startsOf(begin, nil, 6, 16, 0, 42);
        Edges.due(s, "fits()", nil.fits(), 1);
        Edges.due(s, "about(2)", nil.about(2), 4);
        WhyNot name = blaming(3, "def a 1;def b nil;def c tail a;def d pair a c;");
        Edges.due(s, "about(2)", name.about(2), 1 + 1 + 3 + 1 + 2 + 4);
        Edges.due(s, "apply(0)", name.apply(0), 7);
        sortsOf(s, name, 0, 10, 13, 2, 7, 2, 2);
        startsOf(begin, name, 6, 14, 24, 29, 37, 42, 44);
        Edges.due(s, "kind(3, 0)", name.kind(3, 0), 2);
        // the last NAMES mean what they did, the first one another
        Edges.due(s, "kind(5, 0)", name.kind(5, 0), 0);
        Edges.due(s, "kind(6, 0)", name.kind(6, 0), 2);
        // what stands behind each as goes with it
        WhyNot moved = blaming(3, "def a as truth yes;def b pair call 1 fun x as row any nil as row num nil;");
        Edges.due(s, "apply(0)", moved.apply(0), 10);
        sortsOf(s, moved, 16, 1, 7, 6, 3, 16, 10, 0, 16, 10);
        Edges.due(s, "kind(3, 0)", moved.kind(3, 0), 2);
        Edges.due(s, "kind(3, 1)", moved.kind(3, 1), 10);
        Edges.due(s, "kind(8, 1)", moved.kind(8, 1), 0);
        Edges.due(s, "kind(0, 0)", moved.kind(0, 0), 1);
        String trust = "TRUST is 1, none are RIGHT then";
        WhyNot x = blaming(2, "def a add 1 yes;");
        x.right(0);
        x.right(2);
        Edges.due(trust, "apply(0)", x.apply(0), 3);
        Edges.due(trust, "about(6)", x.about(6), 3);
        Edges.due(trust, "about(3)", x.about(3), 0);
        Edges.due(trust, "untell(0)", x.untell(0), false);
        Edges.due(trust, "right(1)", x.right(1), 0);
        Edges.due(trust, "apply(0) again", x.apply(0), -1);
    }

    public static void main(String[] args) {
        asks();
        clashesOfSorts();
        fiveHundreds();
        kindAsked();
        meets();
        sets();
        core();
        leastOnes();
        leastOfNone();
        cheapestOnes();
        trust();
        cheapest();
        cheapestOfLast();
        hintAsked();
        hintSorts();
        manyNames();
        likeWords();
        fourHundred();
        hintOrder();
        applied();
        Edges.finish("KindEdgesTest");
    }
}
