import java.util.ArrayList;
import java.util.List;

/**
 * Terms 4 and promises 2 to 5, 14, 20, 22 to 29: RIGHT ones, the TIME, BOXES, what program(), apply() and
 * back() leave as it was, and that a refused call, or one that only asks, changes nothing.
 */
public final class StateEdgesTest {
    private static final int[] FAR = {-1, -2, 1000000, Integer.MIN_VALUE, Integer.MAX_VALUE};

    /** Something done to an object; what it answers is free. */
    private interface Doing {
        void to(WhyNot x);
    }

    // ---- RIGHT ones

    private static void thirty() {
        String s = "A PLACE is TOLD to be right: its number; NONE if there are 30";
        WhyNot x = Edges.of("def a add yes no;");
        for (int i = 0; i < 30; i++) {
            Edges.due(s, "about(3)", x.about(3), i);
            Edges.due(s, "right no. " + i, x.right(i % 3), i);
        }
        for (int i = 0; i < 3; i++) {
            Edges.due(s, "right no. 30", x.right(i), -1);
            Edges.due(s, "about(3)", x.about(3), 30);
        }
        Edges.due("It is UNTOLD", "untell(29)", x.untell(29), true);
        Edges.due(s, "right() behind untell", x.right(0), -1);
        Edges.due(s, "about(3) behind untell", x.about(3), 30);
        String none = "NONE, doing nothing, if there is none such";
        WhyNot y = Edges.of("def a add yes no;");
        int[] places = {3, 4, 40, -1, Integer.MIN_VALUE, Integer.MAX_VALUE};
        for (int place : places) {
            Edges.due(none, "right(" + place + ")", y.right(place), -1);
        }
        Edges.due(none, "about(3)", y.about(3), 0);
        Edges.due(none, "right(2)", y.right(2), 0);
        Edges.due(none, "right(0)", y.right(0), 1);
        Edges.due(none, "right(0) of none", new WhyNot().right(0), -1);
        WhyNot forty = Edges.of("def a pair " + Edges.times(9, "add 1 ") + "1 " + Edges.times(9, "add 1 ") + "1;def b 1;");
        Edges.due(none, "right(39) of 40", forty.right(39), 0);
        Edges.due(none, "right(40) of 40", forty.right(40), -1);
    }

    private static void untold() {
        String s = "It is UNTOLD: true; false if it is so already, or there is none such";
        WhyNot x = Edges.of("def a add yes no;");
        Edges.due(s, "untell(0) of none", x.untell(0), false);
        for (int i = 0; i < 30; i++) {
            Edges.due(s, "untell(" + i + ") before", x.untell(i), false);
            x.right(i % 3);
            Edges.due(s, "untell(" + (i + 1) + ") too early", x.untell(i + 1), false);
        }
        for (int far : FAR) {
            Edges.due(s, "untell(" + far + ")", x.untell(far), false);
        }
        Edges.due(s, "untell(30)", x.untell(30), false);
        for (int i = 29; i >= 0; i--) {
            Edges.due(s, "untell(" + i + ")", x.untell(i), true);
            Edges.due(s, "untell(" + i + ") again", x.untell(i), false);
        }
        x.later(5);
        Edges.due(s, "untell(3) later", x.untell(3), false);
    }

    /** MENDS that are LEAST: {0}, {1, 2}. */
    private static void times(WhyNot x, String s, int k, int left, long sure) {
        Edges.due(s, "left(" + k + ")", x.left(k), left);
        Edges.due(s, "sure(" + k + ")", x.sure(k), sure);
    }

    private static void known() {
        String s = "As known at k those that were TOLD at k or before, not UNTOLD at k or before";
        WhyNot x = Edges.of("def a add yes no;");
        x.later(100);
        x.right(0);
        x.later(50);
        x.untell(0);
        times(x, s, 99, 2, 0);
        times(x, s, 100, 1, 6);
        times(x, s, 101, 1, 6);
        times(x, s, 149, 1, 6);
        times(x, s, 150, 2, 0);
        times(x, s, 151, 2, 0);
        for (int far : FAR) {
            times(x, s, far, 2, 0);
        }
        String same = "UNTOLD at a later one or the same";
        WhyNot y = Edges.of("def a add yes no;");
        y.later(7);
        y.right(1);
        y.untell(0);
        y.right(2);
        times(y, same, 6, 2, 0);
        times(y, same, 7, 1, 1);
        times(y, same, 8, 1, 1);
        y.untell(1);
        times(y, same, 7, 2, 0);
        y.right(0);
        y.right(1);
        times(y, same, 6, 2, 0);
        times(y, same, 7, 0, 0);
        times(y, same, Integer.MAX_VALUE, 0, 0);
        times(y, same, Integer.MIN_VALUE, 2, 0);
        String twice = "A PLACE is TOLD twice";
        WhyNot z = Edges.of("def a add yes no;");
        z.right(0);
        z.right(0);
        z.untell(0);
        times(z, twice, 0, 1, 6);
        z.untell(1);
        times(z, twice, 0, 2, 0);
        String zero = "0 at first";
        WhyNot w = Edges.of("def a add yes no;");
        w.right(0);
        times(w, zero, -1, 2, 0);
        times(w, zero, 0, 1, 6);
        String empty = "0 if none is LEFT";
        WhyNot fit = Edges.of("def a 1;");
        fit.right(0);
        Edges.due(empty, "left(0) where all FITS", fit.left(0), 1);
        Edges.due(empty, "sure(0) where all FITS", fit.sure(0), 0);
        Edges.due(empty, "left(0) of none", new WhyNot().left(0), 1);
        Edges.due(empty, "sure(0) of none", new WhyNot().sure(0), 0);
        WhyNot all = Edges.of("def a head 1;");
        times(all, "SURE: PLACES in all that are LEFT", 0, 2, 0);
        all.right(0);
        times(all, "SURE: PLACES in all that are LEFT", 0, 1, 2);
        all.right(1);
        times(all, empty, 0, 0, 0);
    }

    // ---- the TIME

    private static void later() {
        String s = "So much later (0 .. 1000): the TIME; NONE for another number, or if it would be above 100,000";
        WhyNot x = new WhyNot();
        Edges.due(s, "about(4)", x.about(4), 0);
        Edges.due(s, "later(0)", x.later(0), 0);
        Edges.due(s, "later(1)", x.later(1), 1);
        Edges.due(s, "later(999)", x.later(999), 1000);
        Edges.due(s, "later(1000)", x.later(1000), 2000);
        int[] others = {-1, 1001, 1002, 98000, Integer.MIN_VALUE, Integer.MAX_VALUE};
        for (int by : others) {
            Edges.due(s, "later(" + by + ")", x.later(by), -1);
            Edges.due(s, "about(4) behind later(" + by + ")", x.about(4), 2000);
        }
        for (int i = 3; i < 100; i++) {
            Edges.due(s, "later(1000)", x.later(1000), 1000 * i);
        }
        Edges.due(s, "later(1) at 99,000", x.later(1), 99001);
        Edges.due(s, "later(1000) at 99,001", x.later(1000), -1);
        Edges.due(s, "later(998) at 99,001", x.later(998), 99999);
        Edges.due(s, "later(2) at 99,999", x.later(2), -1);
        Edges.due(s, "later(0) at 99,999", x.later(0), 99999);
        Edges.due(s, "later(1) at 99,999", x.later(1), 100000);
        Edges.due(s, "later(1) at 100,000", x.later(1), -1);
        Edges.due(s, "later(0) at 100,000", x.later(0), 100000);
        Edges.due(s, "later(1000) at 100,000", x.later(1000), -1);
        Edges.due(s, "later(max) at 100,000", x.later(Integer.MAX_VALUE), -1);
        Edges.due(s, "about(4)", x.about(4), 100000);
        WhyNot y = new WhyNot();
        for (int i = 1; i <= 100; i++) {
            Edges.due(s, "later(1000)", y.later(1000), 1000 * i);
        }
        Edges.due(s, "later(1)", y.later(1), -1);
        Edges.read(y, "def a add yes no;");
        y.right(0);
        times(y, "TOLD at the last TIME", 99999, 2, 0);
        times(y, "TOLD at the last TIME", 100000, 1, 6);
    }

    // ---- BOXES

    private static void boxes() {
        String s = "kept in a BOX 0 .. 2: how many PLACES; NONE if there is none such";
        WhyNot x = Edges.of("def a add 1 yes;");
        for (int box = -2; box <= 5; box++) {
            Edges.due("NONE, doing nothing, if nothing was", "back(" + box + ")", x.back(box), -1);
            Edges.due(s, "image(" + box + ")", x.image(box), box < 0 || box > 2 ? -1 : 3);
        }
        for (int far : FAR) {
            Edges.due(s, "image(" + far + ")", x.image(far), -1);
            Edges.due("NONE, doing nothing, if nothing was", "back(" + far + ")", x.back(far), -1);
        }
        for (int box = -2; box <= 5; box++) {
            Edges.due("All is as it was kept: how many PLACES", "back(" + box + ")", x.back(box), box < 0 || box > 2 ? -1 : 3);
        }
        String each = "each BOX keeps its own";
        WhyNot y = Edges.of("def a add 1 yes;");
        y.trust(0, 10);
        y.image(0);
        y.trust(0, 20);
        y.image(1);
        y.apply(0);
        y.image(2);
        long[] trusts = {12, 22, 3};
        int[] fits = {0, 0, 1};
        int[] order = {0, 1, 2, 1, 0, 2, 0};
        for (int box : order) {
            Edges.due(each, "back(" + box + ")", y.back(box), 3);
            Edges.due(each, "about(6)", y.about(6), trusts[box]);
            Edges.due(each, "fits()", y.fits(), fits[box]);
        }
        y.image(1);
        Edges.due("what was kept before is kept no more", "back(1)", y.back(1), 3);
        Edges.due("what was kept before is kept no more", "about(6)", y.about(6), 12);
        String empty = "an empty PROGRAM is kept, too";
        WhyNot z = new WhyNot();
        Edges.due(empty, "image(2)", z.image(2), 0);
        Edges.due(empty, "back(2)", z.back(2), 0);
        Edges.due(empty, "back(1)", z.back(1), -1);
    }

    private static void about() {
        String s = "0: DEFS, 1: PLACES, 2: ASKINGS, 3: RIGHT ones, 4: the TIME, 5: bytes on the TAPE, 6: TRUST of all PLACES";
        int[] others = {-1, 7, 8, Integer.MIN_VALUE, Integer.MAX_VALUE};
        WhyNot x = new WhyNot();
        for (int what = 0; what < 7; what++) {
            Edges.due(s, "about(" + what + ") of a new one", x.about(what), 0);
        }
        WhyNot y = Edges.of("def a 1;def b add a a;");
        y.right(1);
        y.right(1);
        y.untell(0);
        y.later(9);
        y.trust(3, 5);
        Edges.tape(y, "0123456789");
        int[] want = {2, 4, 6, 2, 9, 10, 8};
        for (int what = 0; what < 7; what++) {
            Edges.due(s, "about(" + what + ")", y.about(what), want[what]);
        }
        for (int what : others) {
            Edges.due("NONE for another what", "about(" + what + ") of a new one", x.about(what), -1);
            Edges.due("NONE for another what", "about(" + what + ")", y.about(what), -1);
        }
    }

    // ---- before and behind program(), apply(), back()

    /** A clash, TRUST, RIGHT ones, one BOX of three, a TIME, a TAPE, and a FAULT of before. */
    private static WhyNot rich() {
        WhyNot x = Edges.of("def a add 1 yes;");
        x.trust(1, 7);
        x.image(1);
        x.trust(0, 30);
        x.later(12);
        x.right(1);
        x.right(2);
        x.untell(1);
        Edges.tape(x, "def a b;");
        x.program();
        Edges.tape(x, "def z 1; def y yes;");
        return x;
    }

    private static void abouts(String s, WhyNot x, int... want) {
        for (int what = 0; what < want.length; what++) {
            Edges.due(s, "about(" + what + ")", x.about(what), want[what]);
        }
    }

    private static void behindProgram() {
        String before = "before program()";
        WhyNot x = rich();
        abouts(before, x, 1, 3, 3, 2, 12, 19, 38);
        Edges.due(before, "fault(0)", x.fault(0), 4);
        Edges.due(before, "fault(1)", x.fault(1), 6);
        String s = "The TAPE (empty then) is the PROGRAM (TRUST is 1, none are RIGHT, BOXES are empty then; the TIME stays)";
        Edges.due(s, "program()", x.program(), 2);
        abouts(s, x, 2, 2, 2, 0, 12, 0, 2);
        Edges.due(s, "fault(0)", x.fault(0), 0);
        Edges.due(s, "fault(1)", x.fault(1), -1);
        Edges.due(s, "untell(0)", x.untell(0), false);
        Edges.due(s, "end(1)", x.end(1), -1);
        for (int box = 0; box < 3; box++) {
            Edges.due(s, "back(" + box + ")", x.back(box), -1);
        }
        Edges.due(s, "right(1)", x.right(1), 0);
        Edges.due(s, "trust(0, 2)", x.trust(0, 2), 1);
        Edges.due(s, "program() of the empty TAPE", x.program(), 0);
        abouts(s, x, 0, 0, 0, 0, 12, 0, 0);
        Edges.due(s, "place(0, 0)", x.place(0, 0), -1);
        String none = "NONE: a FAULT (the TAPE is empty then, too; all else stays)";
        String[] texts = {"def a #;", "def a;", "def a 1;def a 2;", "def a x;", many()};
        for (String text : texts) {
            WhyNot y = rich();
            y.end(0);
            Edges.tape(y, text);
            Edges.due(none, "program() of " + text, y.program(), -1);
            abouts(none, y, 1, 3, 3, 2, 12, 0, 38);
            Edges.due(none, "fits()", y.fits(), 0);
            Edges.due(none, "cheapest()", y.cheapest(), 4);
            Edges.due(none, "left(12)", y.left(12), 2);
            Edges.due(none, "untell(0)", y.untell(0), true);
            Edges.due(none, "untell(1)", y.untell(1), false);
            Edges.due(none, "right(0)", y.right(0), 2);
            Edges.due(none, "run(0)", y.run(0), -2);
            Edges.due(none, "back(0)", y.back(0), -1);
            Edges.due(none, "back(1)", y.back(1), 3);
            Edges.due(none, "about(6)", y.about(6), 9);
            Edges.due(none, "program() of the empty TAPE", y.program(), 0);
        }
    }

    /** 401 ASKINGS. */
    private static String many() {
        return "def a 1;def b add a a;def c add b b;def d add c c;def e add d d;def f add e e;def g pair f pair d "
                + Edges.times(8, "as any ") + "1;";
    }

    private static void behindApply() {
        String s = "TRUST is 1, none are RIGHT then; TIME, TAPE, BOXES and the FAULT are as they were";
        WhyNot x = rich();
        Edges.due(s, "cheapest()", x.cheapest(), 4);
        Edges.due(s, "apply(0)", x.apply(0), 3);
        abouts(s, x, 1, 3, 3, 0, 12, 19, 3);
        Edges.due(s, "fault(0)", x.fault(0), 4);
        Edges.due(s, "fault(1)", x.fault(1), 6);
        Edges.due(s, "untell(0)", x.untell(0), false);
        Edges.due(s, "right(0)", x.right(0), 0);
        Edges.due(s, "left(12)", x.left(12), 1);
        Edges.due(s, "fits()", x.fits(), 1);
        Edges.due(s, "run(0)", x.run(0), 0);
        Edges.due(s, "run(1)", x.run(1), 1);
        Edges.due(s, "trust(0, 1)", x.trust(0, 1), 1);
        Edges.due(s, "back(0)", x.back(0), -1);
        Edges.due(s, "back(2)", x.back(2), -1);
        Edges.due(s, "back(1)", x.back(1), 3);
        Edges.due(s, "about(6)", x.about(6), 9);
        Edges.due(s, "fits()", x.fits(), 0);
        Edges.due(s, "program() of the TAPE", x.program(), 2);
        String none = "NONE, doing nothing, if there is none such";
        WhyNot y = rich();
        int[] hints = {1, 2, 40, -1, Integer.MIN_VALUE, Integer.MAX_VALUE};
        for (int hint : hints) {
            Edges.due(none, "apply(" + hint + ")", y.apply(hint), -1);
            abouts(none, y, 1, 3, 3, 2, 12, 19, 38);
        }
    }

    private static void behindBack() {
        String s = "All is as it was kept (none are RIGHT then); TIME, TAPE, BOXES and the FAULT are as they were";
        WhyNot x = rich();
        int[] none = {0, 2, 3, -1, Integer.MIN_VALUE, Integer.MAX_VALUE};
        for (int box : none) {
            Edges.due("NONE, doing nothing, if nothing was", "back(" + box + ")", x.back(box), -1);
            abouts("NONE, doing nothing, if nothing was", x, 1, 3, 3, 2, 12, 19, 38);
        }
        Edges.due(s, "back(1)", x.back(1), 3);
        abouts(s, x, 1, 3, 3, 0, 12, 19, 9);
        Edges.due(s, "fault(0)", x.fault(0), 4);
        Edges.due(s, "fault(1)", x.fault(1), 6);
        Edges.due(s, "untell(0)", x.untell(0), false);
        Edges.due(s, "right(2)", x.right(2), 0);
        times(x, s, 11, 2, 0);
        times(x, s, 12, 1, 1);
        Edges.due(s, "trust(1, 3)", x.trust(1, 3), 7);
        Edges.due(s, "trust(0, 3)", x.trust(0, 3), 1);
        Edges.due(s, "back(1) again", x.back(1), 3);
        Edges.due(s, "about(6)", x.about(6), 9);
        Edges.due(s, "back(0)", x.back(0), -1);
        Edges.due(s, "apply(0)", x.apply(0), 1);
        Edges.due(s, "back(1) behind apply", x.back(1), 3);
        Edges.due(s, "place(2, 1) behind apply", x.place(2, 1), 12);
        Edges.due(s, "place(0, 1) behind apply", x.place(0, 1), 6);
        // a PROGRAM that was changed is kept as it is then
        x.apply(0);
        x.image(2);
        x.back(1);
        Edges.due(s, "back(2)", x.back(2), 1);
        Edges.due(s, "place(0, 0)", x.place(0, 0), 10);
        Edges.due(s, "place(0, 1)", x.place(0, 1), 0);
    }

    // ---- calls that change nothing

    private static void ask(List<Long> row, long answer) {
        row.add(answer);
    }

    /** What can be asked without changing anything. */
    private static void asked(WhyNot x, List<Long> row) {
        for (int what = -1; what < 8; what++) {
            ask(row, x.about(what));
        }
        ask(row, x.fault(0));
        ask(row, x.fault(1));
        ask(row, x.fits());
        ask(row, x.core());
        ask(row, x.cores());
        ask(row, x.mends());
        ask(row, x.cheapest());
        ask(row, x.hints());
        for (int i = 0; i < 8; i++) {
            ask(row, x.coreAt(i));
            ask(row, x.mendAt(i));
            ask(row, x.hint(i, 0));
            ask(row, x.hint(i, 1));
            ask(row, x.hint(i, 2));
            ask(row, x.meets(i, 7 - i));
            ask(row, x.clashes(37L * i));
            ask(row, x.left(2 * i));
            ask(row, x.sure(2 * i));
        }
        ask(row, x.run(0));
        ask(row, x.run(1));
        for (int place = 0; place < 14; place++) {
            for (int what = 0; what < 4; what++) {
                ask(row, x.place(place, what));
                ask(row, x.kind(place, what));
            }
        }
    }

    /** All that can be learned of an object, by going on with it in one of several ways. */
    private static List<Long> learned(WhyNot x, int way) {
        List<Long> row = new ArrayList<>();
        switch (way) {
            case 0:
                asked(x, row);
                break;
            case 1:
                for (int i = 0; i <= 30; i++) {
                    ask(row, x.untell(i) ? 1 : 0);
                }
                ask(row, x.right(0));
                for (int place = 0; place < 40; place++) {
                    ask(row, x.trust(place, 9));
                }
                break;
            case 2:
                ask(row, x.program());
                asked(x, row);
                break;
            case 3:
                ask(row, x.apply(0));
                asked(x, row);
                break;
            case 4:
                ask(row, x.later(1));
                ask(row, x.right(1));
                asked(x, row);
                break;
            default:
                ask(row, x.back(way - 5));
                asked(x, row);
                break;
        }
        return row;
    }

    /** Of two objects made alike one is called: what they answer from then on is alike. */
    private static void changesNothing(String call, Doing made, Doing doing) {
        for (int way = 0; way < 8; way++) {
            WhyNot x = new WhyNot();
            WhyNot y = new WhyNot();
            made.to(x);
            made.to(y);
            doing.to(y);
            List<Long> want = learned(x, way);
            List<Long> got = learned(y, way);
            for (int i = 0; i < want.size(); i++) {
                Edges.due("doing nothing", "behind " + call + ", way " + way + ", answer " + i, got.get(i), want.get(i));
            }
        }
    }

    /** What objects are like before the call. */
    private enum Made implements Doing {
        NEW {
            @Override
            public void to(WhyNot x) {
                Edges.due("a new object", "fits()", x.fits(), 1);
            }
        },
        CLASHING {
            @Override
            public void to(WhyNot x) {
                Edges.read(x, "def a fun x add x 1;def b call a yes;def c if 1 a 2;");
                x.trust(3, 20);
                x.image(2);
                x.trust(1, 8);
                x.right(4);
                x.later(3);
                x.right(2);
                x.untell(0);
                Edges.tape(x, "def q pair 1 2; def");
                x.end(15);
            }
        },
        FITTING {
            @Override
            public void to(WhyNot x) {
                Edges.read(x, "def a fun x pair x 1;def b call a nil;");
                x.trust(0, 100);
                x.image(0);
                Edges.tape(x, "def q x;");
            }
        },
        APPLIED {
            @Override
            public void to(WhyNot x) {
                Edges.read(x, "def a call 1 fun x x;def b head yes;");
                x.image(1);
                x.trust(1, 5);
                x.trust(2, 5);
                x.apply(0);
                x.later(4);
                x.right(0);
            }
        },
        BROUGHT_BACK {
            @Override
            public void to(WhyNot x) {
                Edges.read(x, "def a add yes no;");
                x.trust(0, 9);
                x.image(0);
                x.apply(0);
                x.image(1);
                x.back(0);
                x.right(1);
            }
        },
        FULL {
            @Override
            public void to(WhyNot x) {
                Edges.read(x, "def a add yes no;");
                for (int i = 0; i < 30; i++) {
                    x.right(i % 2);
                }
                x.untell(7);
                for (int i = 0; i < 100; i++) {
                    x.later(1000);
                }
                for (int i = 0; i < 80; i++) {
                    x.feed(0x20202020, 0x20202020, 0x20202020, 0x20202020, 0x20202020);
                }
            }
        },
        SPENT {
            @Override
            public void to(WhyNot x) {
                Edges.read(x, "def a pair " + Edges.times(9, "add 1 ") + "1 " + Edges.times(9, "add 1 ") + "yes;def b 1;");
                x.right(39);
                x.image(0);
            }
        }
    }

    private static final int ONE_ANSWERS = 24;

    /** One question alone, asked ahead of all others. */
    private static long one(WhyNot x, int which) {
        switch (which) {
            case 0:
                return x.fits();
            case 1:
                return x.core();
            case 2:
                return x.cores();
            case 3:
                return x.coreAt(0);
            case 4:
                return x.coreAt(1);
            case 5:
                return x.mends();
            case 6:
                return x.mendAt(0);
            case 7:
                return x.mendAt(1);
            case 8:
                return x.left(0);
            case 9:
                return x.left(9);
            case 10:
                return x.sure(0);
            case 11:
                return x.sure(9);
            case 12:
                return x.cheapest();
            case 13:
                return x.hints();
            case 14:
                return x.hint(0, 0);
            case 15:
                return x.hint(0, 1);
            case 16:
                return x.apply(0);
            case 17:
                return x.run(0);
            case 18:
                return x.run(1);
            case 19:
                return x.kind(0, 0);
            case 20:
                return x.kind(x.about(1) - 1, 0);
            case 21:
                return x.meets(0, 1);
            case 22:
                return x.clashes(3);
            default:
                return x.clashes(6);
        }
    }

    /** What was asked before a change does not show behind it: asked or not, each answer is that of the changed. */
    private static void anew(String change, Doing made, Doing changed) {
        for (int which = 0; which < ONE_ANSWERS; which++) {
            WhyNot fresh = new WhyNot();
            made.to(fresh);
            changed.to(fresh);
            WhyNot x = new WhyNot();
            made.to(x);
            asked(x, new ArrayList<>());
            changed.to(x);
            Edges.due("answers are of what is now", "question " + which + " behind " + change, one(x, which), one(fresh, which));
        }
    }

    private static void allAnew() {
        String[] texts = {"", "def a 1;", "def a add 1 yes;", "def a head 1;", "def a add yes no;", "def a call 1 fun x x;",
            "def a less no 2;", "def a cons 1 2;", "def a pair head 1 head 2;", "def a fun x call x x;",
            "def a if 1 2 yes;", "def a tail pair 1 2;", "def a let f fun x x in pair call f 1 call f yes;"};
        for (String before : texts) {
            for (String behind : texts) {
                anew("program() of " + behind + " where " + before + " was", x -> Edges.read(x, before), x -> Edges.read(x, behind));
            }
            Doing read = x -> Edges.read(x, before);
            anew("apply(0) of " + before, read, x -> x.apply(0));
            anew("apply(1) of " + before, read, x -> x.apply(1));
            anew("trust of " + before, read, x -> x.trust(0, 3));
            anew("right of " + before, read, x -> x.right(0));
            anew("right, later, untell of " + before, read, x -> {
                x.right(1);
                x.later(5);
                x.untell(0);
            });
            anew("back(0) of " + before, x -> {
                Edges.read(x, before);
                x.image(0);
                x.trust(0, 9);
                x.apply(0);
            }, x -> x.back(0));
            anew("back(0) to what was changed of " + before, x -> {
                Edges.read(x, before);
                x.image(1);
                x.apply(0);
                x.image(0);
                x.back(1);
            }, x -> x.back(0));
        }
    }

    private static void refused() {
        for (Made made : Made.values()) {
            WhyNot seen = new WhyNot();
            made.to(seen);
            int places = seen.about(1);
            int taped = seen.about(5);
            int far = Math.max(seen.hints(), 0);
            String of = " of " + made;
            changesNothing("end(-1)" + of, made, x -> Edges.due("end", "end(-1)", x.end(-1), -1));
            changesNothing("end(beyond)" + of, made, x -> Edges.due("end", "end", x.end(taped + 1), -1));
            changesNothing("end(all)" + of, made, x -> Edges.due("end", "end", x.end(taped), taped));
            changesNothing("trust" + of, made, x -> {
                Edges.due("trust", "trust(-1, 5)", x.trust(-1, 5), -1);
                Edges.due("trust", "trust(beyond, 5)", x.trust(places, 5), -1);
                Edges.due("trust", "trust(0, 0)", x.trust(0, 0), -1);
                Edges.due("trust", "trust(0, 101)", x.trust(0, 101), -1);
                Edges.due("trust", "trust(last, -1)", x.trust(places - 1, -1), -1);
            });
            changesNothing("apply" + of, made, x -> {
                Edges.due("apply", "apply(beyond)", x.apply(far), -1);
                Edges.due("apply", "apply(-1)", x.apply(-1), -1);
                Edges.due("apply", "apply(40)", x.apply(40), -1);
            });
            changesNothing("right" + of, made, x -> {
                Edges.due("right", "right(-1)", x.right(-1), -1);
                Edges.due("right", "right(beyond)", x.right(places), -1);
            });
            changesNothing("untell" + of, made, x -> {
                Edges.due("untell", "untell(-1)", x.untell(-1), false);
                Edges.due("untell", "untell(beyond)", x.untell(x.about(3)), false);
                Edges.due("untell", "untell(30)", x.untell(30), false);
            });
            changesNothing("later" + of, made, x -> {
                Edges.due("later", "later(-1)", x.later(-1), -1);
                Edges.due("later", "later(1001)", x.later(1001), -1);
                Edges.due("later", "later(0)", x.later(0), x.about(4));
            });
            changesNothing("image, back" + of, made, x -> {
                Edges.due("image", "image(-1)", x.image(-1), -1);
                Edges.due("image", "image(3)", x.image(3), -1);
                Edges.due("back", "back(-1)", x.back(-1), -1);
                Edges.due("back", "back(3)", x.back(3), -1);
            });
            changesNothing("asking" + of, made, x -> asked(x, new ArrayList<>()));
            changesNothing("asking for what is none" + of, made, StateEdgesTest::askWrongly);
        }
    }

    private static void askWrongly(WhyNot x) {
        for (int far : FAR) {
            Edges.due("NONE", "fault(" + far + ")", x.fault(far), -1);
            Edges.due("NONE", "place(" + far + ", 0)", x.place(far, 0), -1);
            Edges.due("NONE", "place(0, " + far + ")", x.place(0, far), -1);
            Edges.due("NONE", "kind(" + far + ", 0)", x.kind(far, 0), -1);
            Edges.due("NONE", "kind(0, " + far + ")", x.kind(0, far), -1);
            Edges.due("NONE", "meets(0, " + far + ")", x.meets(0, far), -1);
            Edges.due("NONE", "coreAt(" + far + ")", x.coreAt(far), -1);
            Edges.due("NONE", "mendAt(" + far + ")", x.mendAt(far), -1);
            Edges.due("NONE", "hint(" + far + ", 0)", x.hint(far, 0), -1);
            Edges.due("NONE", "hint(0, " + far + ")", x.hint(0, far), -1);
            Edges.due("NONE", "run(" + far + ")", x.run(far), -1);
            Edges.due("NONE", "about(" + far + ")", x.about(far), -1);
        }
        Edges.due("NONE", "clashes(-1)", x.clashes(-1L), -1);
        Edges.due("NONE", "clashes(1L << 40)", x.clashes(1L << 40), -1);
    }

    /** What is refused where all is full, and where a BOX was never filled. */
    private static void refusedWhereFull() {
        changesNothing("feed where the TAPE is full", Made.FULL, x -> Edges.due("feed", "feed", x.feed(1, 2, 3, 4, 5), -1));
        changesNothing("right where there are 30", Made.FULL, x -> Edges.due("right", "right(0)", x.right(0), -1));
        changesNothing("untell of what is UNTOLD", Made.FULL, x -> Edges.due("untell", "untell(7)", x.untell(7), false));
        changesNothing("later at the last TIME", Made.FULL, x -> Edges.due("later", "later(1)", x.later(1), -1));
        changesNothing("back where nothing was kept", Made.FULL, x -> Edges.due("back", "back(0)", x.back(0), -1));
        changesNothing("back where nothing was kept", Made.CLASHING, x -> Edges.due("back", "back(1)", x.back(1), -1));
        changesNothing("untell of what is UNTOLD", Made.CLASHING, x -> Edges.due("untell", "untell(0)", x.untell(0), false));
        changesNothing("apply of one SPENT", Made.SPENT, x -> Edges.due("apply", "apply(0)", x.apply(0), -1));
        changesNothing("trust that is the same", Made.CLASHING, x -> Edges.due("trust", "trust(1, 8)", x.trust(1, 8), 8));
    }

    public static void main(String[] args) {
        thirty();
        untold();
        known();
        later();
        boxes();
        about();
        behindProgram();
        behindApply();
        behindBack();
        refused();
        refusedWhereFull();
        allAnew();
        Edges.finish("StateEdgesTest");
    }
}
