/** Terms 4 and promise 21: what a RUN asks of VALUES, what comes first, ints that wrap, and when it is SPENT. */
public final class RunEdgesTest {
    /** One e of each sort, and how a PLACE is worked out in it. */
    private static final String[] EACH = {"7", "yes", "no", "nil", "fun z z", "let z 1 in z", "let z 1 in 2", "if yes 1 2",
        "if no 1 2", "call fun z z 1", "call fun z 2 1", "pair 1 2", "first pair 1 2", "second pair 1 2", "cons 1 nil",
        "head cons 1 nil", "tail cons 1 nil", "add 1 2", "less 1 2", "as any 1"};

    private static void run(String sentence, String text, int head, int number) {
        WhyNot x = Edges.of(text);
        Edges.due(sentence, "run(0) of " + text, x.run(0), head);
        Edges.due(sentence, "run(1) of " + text, x.run(1), number);
        Edges.due(sentence, "run(0) again of " + text, x.run(0), head);
    }

    private static void values() {
        String s = "HEAD: 0 number, 1 truth, 2 row, 3 both, 4 fun; the number, 1 or 0 of a truth, how many are in a row";
        int[] heads = {0, 1, 1, 2, 4, 0, 0, 0, 0, 0, 0, 3, 0, 0, 2, 0, 2, 0, 1, 0};
        int[] numbers = {7, 1, 0, 0, 0, 1, 2, 1, 2, 1, 2, 0, 1, 2, 1, 1, 0, 3, 1, 1};
        for (int i = 0; i < EACH.length; i++) {
            run(s, "def a " + EACH[i] + ";", heads[i], numbers[i]);
            run("A RUN works out the last DEF's e", "def b head nil;def a " + EACH[i] + ";", heads[i], numbers[i]);
            run("a NAME of a DEF: its e, anew", "def a " + EACH[i] + ";def b a;", heads[i], numbers[i]);
            run("a NAME of a let: its e, anew", "def a let y " + EACH[i] + " in y;", heads[i], numbers[i]);
            run("of let the last", "def a let y head nil in " + EACH[i] + ";", heads[i], numbers[i]);
            run("of if the first, then one of the others", "def a if yes " + EACH[i] + " head nil;", heads[i], numbers[i]);
            run("of if the first, then one of the others", "def a if no head nil " + EACH[i] + ";", heads[i], numbers[i]);
            run("as asks nothing", "def a as from num row truth " + EACH[i] + ";", heads[i], numbers[i]);
        }
        StringBuilder row = new StringBuilder("nil");
        for (int n = 0; n <= 18; n++) {
            run(s, "def a " + row + ";", 2, n);
            row.insert(0, "cons 1 ");
        }
        run(s, "def f fun s fun n if less n 40 cons n call call s s add n 1 nil;def a call call f f 0;", 2, 40);
        run(s, "def f fun s fun n if less n 40 cons n call call s s add n 1 nil;def a tail tail call call f f 0;", 2, 38);
        run(s, "def f fun s fun n if less n 40 cons n call call s s add n 1 nil;def a head tail call call f f 5;", 0, 6);
        run(s, "def a cons 1 cons yes cons nil cons pair 1 2 cons fun x x nil;", 2, 5);
        run(s, "def a less 1 1;", 1, 0);
        run(s, "def a less 2 1;", 1, 0);
    }

    private static void runAsked() {
        String s = "NONE without DEFS, or for another what";
        int[] others = {-1, 2, 3, Integer.MIN_VALUE, Integer.MAX_VALUE};
        WhyNot none = new WhyNot();
        WhyNot one = Edges.of("def a 1;");
        WhyNot spent = Edges.of("def a call fun x call x x fun x call x x;");
        for (int what : others) {
            Edges.due(s, "run(" + what + ") without DEFS", none.run(what), -1);
            Edges.due(s, "run(" + what + ")", one.run(what), -1);
            Edges.due(s, "run(" + what + ") of one that is SPENT", spent.run(what), -1);
        }
        Edges.due(s, "run(0) without DEFS", none.run(0), -1);
        Edges.due(s, "run(1) without DEFS", none.run(1), -1);
        Edges.due(s, "run(0)", one.run(0), 0);
        Edges.due(s, "program() of nothing", Edges.read(one, ""), 0);
        Edges.due(s, "run(0) behind it", one.run(0), -1);
        Edges.due(s, "run(1) behind it", one.run(1), -1);
        Edges.due(s, "run(0) of one that is SPENT", spent.run(0), -4);
        Edges.due(s, "program() at a FAULT", Edges.read(spent, "def a"), -1);
        Edges.due(s, "run(0) behind it", spent.run(0), -4);
        Edges.read(spent, "def b yes;");
        Edges.due(s, "run(0) of another", spent.run(0), 1);
        Edges.due(s, "run(1) of another", spent.run(1), 1);
    }

    /** Of each HEAD one e. */
    private static final String[] OF_HEAD = {"1", "yes", "nil", "pair 1 2", "fun z z"};

    private static void otherHeads() {
        String s = "-2: a VALUE is of another HEAD than what is done with it asks";
        for (int head = 0; head < 5; head++) {
            String e = OF_HEAD[head];
            run(s, "def a add " + e + " 1;", head == 0 ? 0 : -2, head == 0 ? 2 : 0);
            run(s, "def a add 1 " + e + ";", head == 0 ? 0 : -2, head == 0 ? 2 : 0);
            run(s, "def a less " + e + " 2;", head == 0 ? 1 : -2, head == 0 ? 1 : 0);
            run(s, "def a less 0 " + e + ";", head == 0 ? 1 : -2, head == 0 ? 1 : 0);
            run(s, "def a if " + e + " 3 4;", head == 1 ? 0 : -2, head == 1 ? 3 : 0);
            run(s, "def a call " + e + " 3;", head == 4 ? 0 : -2, head == 4 ? 3 : 0);
            run(s, "def a first " + e + ";", head == 3 ? 0 : -2, head == 3 ? 1 : 0);
            run(s, "def a second " + e + ";", head == 3 ? 0 : -2, head == 3 ? 2 : 0);
            run(s, "def a head " + e + ";", head == 2 ? -3 : -2, 0);
            run(s, "def a tail " + e + ";", head == 2 ? -3 : -2, 0);
            run("(cons: the second)", "def a cons 1 " + e + ";", head == 2 ? 2 : -2, head == 2 ? 1 : 0);
            run("(cons: the second)", "def a cons " + e + " nil;", 2, 1);
            run("(cons: the second)", "def a cons " + e + " cons 1 nil;", 2, 2);
            run("what is done with it", "def a call fun x 5 " + e + ";", 0, 5);
            run("what is done with it", "def a pair " + e + " " + e + ";", 3, 0);
        }
        String empty = "-3: head, tail of an empty row";
        run(empty, "def a head tail cons 1 nil;", -3, 0);
        run(empty, "def a tail tail cons 1 nil;", -3, 0);
        run(empty, "def a head cons 1 nil;", 0, 1);
        run(empty, "def a tail cons 1 nil;", 2, 0);
    }

    private static void whatComesFirst() {
        String s = "each e in its order, then what is done with them; what comes first of -2, -3, -4";
        String spent = "call fun w call w w fun w call w w";
        String[] pairs = {"add", "less", "cons", "call", "pair"};
        for (String two : pairs) {
            run(s, "def a " + two + " head nil add yes 1;", -3, 0);
            run(s, "def a " + two + " add yes 1 head nil;", -2, 0);
            run(s, "def a " + two + " " + spent + " head nil;", -4, 0);
            run(s, "def a " + two + " head nil " + spent + ";", -3, 0);
            run(s, "def a " + two + " add yes 1 " + spent + ";", -2, 0);
            run(s, "def a " + two + " yes head nil;", -3, 0);
            run(s, "def a " + two + " yes " + spent + ";", -4, 0);
        }
        run(s, "def a if 1 head nil head nil;", -2, 0);
        run(s, "def a if 1 " + spent + " 2;", -2, 0);
        run(s, "def a if head nil 1 2;", -3, 0);
        run(s, "def a if " + spent + " 1 2;", -4, 0);
        run(s, "def a if yes 1 " + spent + ";", 0, 1);
        run(s, "def a if no " + spent + " 2;", 0, 2);
        run(s, "def a let x " + spent + " in 3;", 0, 3);
        run(s, "def a let x " + spent + " in x;", -4, 0);
        run(s, "def a call fun x 3 head nil;", -3, 0);
        run(s, "def a call fun x head nil add yes 1;", -2, 0);
        run(s, "def a fun x head nil;", 4, 0);
        run(s, "def a call fun x head x nil;", -3, 0);
        run(s, "def a head cons head nil nil;", -3, 0);
        run(s, "def a second pair add 1 yes 2;", -2, 0);
    }

    private static void wrapping() {
        String s = "a number (ints, wrapping)";
        // f doubles and adds 1: 31 times, of 0, that is the greatest int
        String start = "def f fun x add add x x 1;def t fun g fun x call g call g x;def c call t f;def d call t c;"
                + "def h call t d;def k call t h;";
        String most = "call k call h call d call c call f 0";
        run(s, start + "def m " + most + ";", 0, Integer.MAX_VALUE);
        run(s, start + "def m add 1 " + most + ";", 0, Integer.MIN_VALUE);
        run(s, start + "def m add " + most + " 2;", 0, Integer.MIN_VALUE + 1);
        run(s, start + "def m less add 1 " + most + " 0;", 1, 1);
        run(s, start + "def m less " + most + " 0;", 1, 0);
        run(s, start + "def m call f " + most + ";", 0, -1);
        run(s, start + "def m add 1 call f " + most + ";", 0, 0);
    }

    // ---- SPENT

    /** A RUN goes on from nothing that another left behind. */
    private static void oneBehindAnother() {
        String s = "each e anew";
        String loop = "def f fun s fun n if less n 6 let r call call s s add n 1 in add r r pair 1 cons 2 nil;";
        String[] texts = {"def m call call f f 0;", "def m call call f f 6;", "def m call call f f 2;"};
        int[] heads = {-2, 3, -2};
        String spent = "def w call fun x call x x fun x call x x;";
        String pairs = "def f fun s fun n if less n 6 let r call call s s add n 1 in pair r r 1;def m call call f f 0;";
        WhyNot x = new WhyNot();
        for (int round = 0; round < 12; round++) {
            int i = round % 3;
            Edges.read(x, loop + texts[i]);
            Edges.due(s, "run(0) of round " + round, x.run(0), heads[i]);
            Edges.read(x, spent);
            Edges.due(s, "run(0) of what is SPENT", x.run(0), -4);
            Edges.due(s, "run(1) of what is SPENT", x.run(1), 0);
            Edges.read(x, pairs);
            Edges.due(s, "run(0) of many pairs", x.run(0), 3);
            Edges.read(x, "def a call fun x add x 1 41;");
            Edges.due(s, "run(1) first", x.run(1), 42);
            Edges.due(s, "run(0)", x.run(0), 0);
        }
    }

    private static int[] held(String sentence, String text) {
        int[] want = new Model(Edges.bytes(text)).run();
        run(sentence, text, want[0], want[1]);
        return want;
    }

    /**
     * A PLACE more or less in each e, of whatever sort, would make another text the first that is SPENT:
     * each is worked out some hundred times in texts that come to some 4,000; the Model counts them.
     */
    private static void eachSortCounts() {
        String s = "-4 SPENT: a 4,001st PLACE is worked out";
        String[] some = {"d", "g", "1", "pair d g", "pair d d", "pair g 1"};
        String[] before = {"", "pair d ", "pair g ", "pair h ", "pair pair h h "};
        for (String e : EACH) {
            int near = 0;
            for (int i = 0; i < 540; i++) {
                String text = "def d " + e + ";def g pair d d;def h pair g g;def f fun s fun n if less n " + (5 + i / 180)
                        + " let r call call s s add n 1 in pair " + some[i % 6] + " pair r r " + some[i / 6 % 6] + ";def m "
                        + before[i / 36 % 5] + "call call f f 0;";
                Model m = ran(text);
                if (m != null && m.worked > 3700) {
                    near += m.worked <= 4000 ? 1 : 0;
                    Edges.due(s, "run(0) of " + text, Edges.of(text).run(0), m.worked > 4000 ? -4 : 3);
                }
            }
            Edges.due(s, "texts that work out nearly 4,000 of " + e, near > 0, true);
        }
    }

    /** The Model behind its run; null if the text is none for it. */
    private static Model ran(String text) {
        try {
            Model m = new Model(Edges.bytes(text));
            m.run();
            return m;
        } catch (Model.Fault f) {
            return null;
        }
    }

    /** Each n below 7 works out 24 PLACES and twice what n + 1 does, 7 itself 7; each first call 8 more. */
    private static void fourThousand() {
        String s = "-4 SPENT: a 4,001st PLACE is worked out";
        String twice = "def f fun s fun n if less n 7 let r call call s s add n 1 in add r r as any as any 1;";
        String both = "add call call f f 0 call call f f 6";
        Edges.due(s, "PLACES that the Model counts", ran(twice + "def m " + both + ";").worked, 3999);
        run(s, twice + "def m " + both + ";", 0, 130);
        String[] taken = {"def m as any " + both, "def m let x 1 in " + both, "def k " + both + ";def m k"};
        for (String m : taken) {
            Edges.due(s, "PLACES that the Model counts", ran(twice + m + ";").worked, 4000);
            run(s, twice + m + ";", 0, 130);
        }
        String[] spent = {"def m as any as any " + both, "def m let x " + both + " in x", "def m if yes " + both + " 1",
            "def k " + both + ";def m as any k", "def m pair 1 " + both, "def m pair " + both + " 1", "def m cons " + both + " nil",
            "def m add " + both + " yes", "def m call " + both + " 1", "def m head let x " + both + " in x"};
        for (String m : spent) {
            Edges.due(s, "PLACES that the Model counts", ran(twice + m + ";").worked, 4001);
            run(s, twice + m + ";", -4, 0);
        }
        // What is done with the 4,000th comes ahead of a 4,001st.
        run(s, twice + "def m head " + both + ";", -2, 0);
        run(s, twice + "def m call as any " + both + " 1;", -4, 0);
        run(s, twice + "def m if " + both + " 1 2;", -2, 0);
        run(s, twice + "def m let x " + both + " in 1;", 0, 1);
        run(s, twice + "def m fun x " + both + ";", 4, 0);
    }

    private static void spentAt(String s, String text, int more) {
        for (int as = more - 1; as <= more + 1; as++) {
            String whole = text + Edges.times(as, "as any ") + "call call f f 0;";
            int[] value = held(s, whole);
            Edges.due(s, "whether " + whole + " is SPENT", value[0] == -4, as > more);
        }
    }

    /** Of each sort one e stands where some as before all make the deepest PLACE one within 150 others. */
    private static void oneHundredFifty() {
        String s = "-4 SPENT: one within more than 150 others (the e of a NAME, of a fun that is called, are within these)";
        String[] more = {"d", "n", "call call fun z fun y z 1 2", "let z d in z", "let z let y n in y in z"};
        String[] all = java.util.Arrays.copyOf(EACH, EACH.length + more.length);
        System.arraycopy(more, 0, all, EACH.length, more.length);
        for (String e : all) {
            String start = "def d add 1 2;def f fun s fun n if less n ";
            boolean found = false;
            for (int k = 60; k < 76 && !found; k++) {
                String text = start + k + " call call s s add n 1 " + e + ";def m ";
                Model m = new Model(Edges.bytes(text + "call call f f 0;"));
                int[] value = m.run();
                int missing = 150 - m.deepest;
                if (value[0] >= 0 && missing >= 1 && missing <= 2) {
                    found = true;
                    spentAt(s, text, missing);
                }
            }
            Edges.due(s, "a text with " + e + " within nearly 150", found, true);
        }
    }

    /** Counted by hand: each call stands two deeper than the one before. */
    private static void byHand() {
        String s = "within more than 150 others";
        // n's if is within 2 n + 1, its last e within one more, the e of its less within two more
        String f = "def f fun s fun n if less n ";
        String call = " call call s s add n 1 ";
        run(s, f + 73 + call + "n;def m call call f f 0;", 0, 73);
        run(s, f + 74 + call + "n;def m call call f f 0;", -4, 0);
        run(s, f + 73 + call + "n;def m as any call call f f 0;", 0, 73);
        run(s, f + 73 + call + "n;def m as any as any call call f f 0;", -4, 0);
        run(s, f + 73 + call + "as any as any n;def m call call f f 0;", 0, 73);
        run(s, f + 73 + call + "as any as any as any n;def m call call f f 0;", -4, 0);
        run(s, f + 73 + call + "n;def k call call f f 0;def m k;", 0, 73);
        run(s, f + 73 + call + "n;def k call call f f 0;def m as any k;", -4, 0);
        run(s, f + 73 + call + "n;def m call fun x x call call f f 0;", 0, 73);
        run(s, f + 73 + call + "n;def m call fun x call call f f x 0;", 0, 73);
        run(s, f + 73 + call + "n;def m as any call fun x call call f f x 0;", -4, 0);
        // call, call, f, fun, f, fun, fun, 0, then for each n less than k: if, less, n, k, call, call, s, s, fun, add, n, 1
        Edges.due("a 4,001st PLACE", "PLACES that the Model counts", ran(f + 5 + call + "n;def m call call f f 0;").worked,
                8 + 5 * 12 + 5);
    }

    public static void main(String[] args) {
        values();
        runAsked();
        otherHeads();
        whatComesFirst();
        wrapping();
        oneBehindAnother();
        eachSortCounts();
        fourThousand();
        oneHundredFifty();
        byHand();
        Edges.finish("RunEdgesTest");
    }
}
