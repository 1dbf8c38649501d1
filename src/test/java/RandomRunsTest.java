import java.nio.charset.StandardCharsets;
import java.util.List;
import java.util.Random;

/** Holds WhyNot against the Model on many programs. Arguments: seeds from, to (else those of CI). */
public final class RandomRunsTest {
    private static int wrong = 0;
    private static String about = "";
    private static long asked = 0;
    private static final int[] hintsOfSort = new int[5];
    /** How often the CHEAPEST of more than 12 PLACES was found by the Model, too. */
    private static int searchedThrough = 0;

    private static void due(String call, long got, long want) {
        asked++;
        if (got != want) {
            wrong++;
            if (wrong < 40) {
                System.out.println(about + "\n  " + call + " answered " + got + ", due is " + want);
            }
        }
    }

    static void feed(WhyNot x, byte[] text) {
        for (int i = 0; i < text.length; i += 20) {
            int[] n = new int[5];
            for (int k = 0; k < 20; k++) {
                int b = i + k < text.length ? text[i + k] & 255 : 32;
                n[k / 4] = n[k / 4] << 8 | b;
            }
            due("feed", x.feed(n[0], n[1], n[2], n[3], n[4]), i + 20);
        }
        due("end", x.end(text.length), text.length);
        due("about(5)", x.about(5), text.length);
    }

    private static void askPlaces(WhyNot x, Model m) {
        due("about(0)", x.about(0), m.defs.size());
        due("about(1)", x.about(1), m.places.size());
        due("about(2)", x.about(2), m.askings());
        due("about(6)", x.about(6), m.trustOf(m.all()));
        for (Model.Node n : m.places) {
            due("place(" + n.number + ", 0)", x.place(n.number, 0), n.sort);
            due("place(" + n.number + ", 1)", x.place(n.number, 1), n.start);
            due("place(" + n.number + ", 2)", x.place(n.number, 2), n.def);
            due("place(" + n.number + ", 3)", x.place(n.number, 3), n.value);
        }
        due("place beyond", x.place(m.places.size(), 0), -1);
    }

    private static void askKinds(WhyNot x, Model m, Random r) {
        boolean fits = m.fits();
        due("fits()", x.fits(), fits ? 1 : 0);
        due("core()", x.core(), m.core());
        int n = m.places.size();
        for (int p = 0; p < n && r.nextInt(3) == 0; p++) {
            List<Integer> kind = m.kindOf(p);
            for (int i = 0; i < kind.size() && i < 30; i++) {
                due("kind(" + p + ", " + i + ")", x.kind(p, i), kind.get(i));
            }
            due("kind(" + p + ", " + kind.size() + ")", x.kind(p, kind.size()), -1);
            if (kind.size() > 30) {
                due("kind(" + p + ", last)", x.kind(p, kind.size() - 1), kind.get(kind.size() - 1));
            }
        }
        for (int i = 0; i < 6 && n > 0; i++) {
            int a = r.nextInt(n);
            int b = r.nextInt(n);
            due("meets(" + a + ", " + b + ")", x.meets(a, b), fits ? m.meets(a, b) ? 1 : 0 : -1);
            long set = r.nextLong() & r.nextLong() & m.all();
            due("clashes(" + set + ")", x.clashes(set), m.clash(set) ? 1 : 0);
            set = (r.nextLong() | r.nextLong()) & m.all();
            due("clashes(" + set + ")", x.clashes(set), m.clash(set) ? 1 : 0);
        }
        int[] run = m.defs.isEmpty() ? new int[] {-1, -1} : m.run();
        due("run(0)", x.run(0), run[0]);
        due("run(1)", x.run(1), run[1]);
    }

    private static void askSets(WhyNot x, Model m, Random r) {
        int n = m.places.size();
        if (n > 12) {
            due("cores()", x.cores(), -2);
            due("coreAt(0)", x.coreAt(0), -1);
            due("mends()", x.mends(), -2);
            due("mendAt(0)", x.mendAt(0), -1);
            due("left(0)", x.left(0), -2);
            due("sure(0)", x.sure(0), -2);
            return;
        }
        List<Long> cores = m.cores();
        due("cores()", x.cores(), cores.size());
        for (int i = -1; i <= cores.size(); i++) {
            due("coreAt(" + i + ")", x.coreAt(i), i < 0 || i == cores.size() ? -1 : cores.get(i));
        }
        List<Long> mends = m.mends();
        due("mends()", x.mends(), mends.size());
        for (int i = -1; i <= mends.size(); i++) {
            due("mendAt(" + i + ")", x.mendAt(i), i < 0 || i == mends.size() ? -1 : mends.get(i));
        }
        askLeft(x, m, mends, r);
    }

    private static void askLeft(WhyNot x, Model m, List<Long> mends, Random r) {
        int n = m.places.size();
        if (n == 0) {
            return;
        }
        int told = r.nextInt(4);
        int[] place = new int[told];
        int[] from = new int[told];
        int[] until = new int[told];
        for (int i = 0; i < told; i++) {
            place[i] = r.nextInt(n);
            from[i] = x.about(4);
            until[i] = Integer.MAX_VALUE;
            due("right(" + place[i] + ")", x.right(place[i]), i);
            x.later(r.nextInt(2));
            if (r.nextInt(3) == 0) {
                int which = r.nextInt(i + 1);
                boolean could = until[which] == Integer.MAX_VALUE;
                due("untell(" + which + ")", x.untell(which) ? 1 : 0, could ? 1 : 0);
                if (could) {
                    until[which] = x.about(4);
                }
            }
        }
        due("about(3)", x.about(3), told);
        for (int k = x.about(4) - 4; k <= x.about(4) + 1; k++) {
            long kept = 0;
            for (int i = 0; i < told; i++) {
                if (from[i] <= k && until[i] > k) {
                    kept |= 1L << place[i];
                }
            }
            int left = 0;
            long sure = -1;
            for (long mend : mends) {
                if ((mend & kept) == 0) {
                    left++;
                    sure &= mend;
                }
            }
            due("left(" + k + ")", x.left(k), left);
            due("sure(" + k + ")", x.sure(k), left == 0 ? 0 : sure);
        }
    }

    private static void trust(WhyNot x, Model m, int p, int t) {
        due("trust(" + p + ", " + t + ")", x.trust(p, t), m.trust[p]);
        m.trust[p] = t;
    }

    /** Some PLACES are trusted much, one of the clash little: CHEAPEST and HINTS are of many sorts. */
    private static void askCheapest(WhyNot x, Model m, Random r) {
        int n = m.places.size();
        if (n > 24) {
            due("cheapest()", x.cheapest(), -2);
            due("hints()", x.hints(), -2);
            due("hint(0, 0)", x.hint(0, 0), -1);
            due("apply(0)", x.apply(0), -1);
            return;
        }
        long core = m.core();
        for (int round = 0; round < (core == 0 ? 1 : 5); round++) {
            for (int i = 0; i < n && round < 4; i++) {
                int p = r.nextInt(n);
                trust(x, m, p, 1 + r.nextInt(r.nextBoolean() ? 4 : 100));
            }
            for (int p = 0; p < n && round > 0 && core != 0; p++) {
                if ((core >>> p & 1) == 1 && r.nextInt(3) == 0) {
                    trust(x, m, p, 1 + r.nextInt(3));
                }
            }
            if (n <= 12) {
                due("cheapest()", x.cheapest(), m.cheapestOf(m.mends()));
            } else {
                long searched = m.cheapestSearched();
                if (searched >= 0) {
                    searchedThrough++;
                    due("cheapest()", x.cheapest(), searched);
                }
                if (n <= 14 && round == 0) {
                    due("cheapest()", x.cheapest(), m.cheapest());
                }
            }
            askHints(x, m, r);
        }
    }

    private static void askHints(WhyNot x, Model m, Random r) {
        int n = m.places.size();
        if (r.nextInt(4) == 0) {
            // A FAULT between leaves all as it was.
            feed(x, "def a as from any from num any 1; def b as row truth c;".getBytes(StandardCharsets.ISO_8859_1));
            due("program()", x.program(), -1);
        }
        List<Model.Hint> hints = m.hints(x.cheapest());
        if (r.nextBoolean()) {
            due("hints()", x.hints(), hints.size());
        }
        for (int i = 0; i < hints.size(); i++) {
            due("hint(" + i + ", 0)", x.hint(i, 0), hints.get(i).place());
            due("hint(" + i + ", 1)", x.hint(i, 1), hints.get(i).sort());
            due("hint(" + i + ", 2)", x.hint(i, 2), hints.get(i).i());
            hintsOfSort[hints.get(i).sort()]++;
        }
        long cheapest = x.cheapest();
        due("cheapest() is a MEND", m.clash(m.all() & ~cheapest) ? 1 : 0, 0);
        for (int i = 0; i < 60; i++) {
            long other = r.nextLong() & r.nextLong() & r.nextLong() & m.all();
            int more = m.trustOf(other) - m.trustOf(cheapest);
            if (more < 0 || more == 0 && other < cheapest) {
                due("MEND " + other + " beside cheapest() " + cheapest, m.clash(m.all() & ~other) ? 1 : 0, 1);
            }
        }
        due("hint beyond", x.hint(hints.size(), 0), -1);
        due("apply beyond", x.apply(hints.size()), -1);
        due("image(2)", x.image(2), n);
        for (int i = 0; i < hints.size() && i < 6; i++) {
            Model changed = hints.get(i).changed();
            due("apply(" + i + ")", x.apply(i), changed.places.size());
            String before = about;
            about = before + "  behind apply(" + i + "), now " + changed.print();
            askPlaces(x, changed);
            askKinds(x, changed, r);
            if (changed.places.size() <= 8 && r.nextInt(4) == 0) {
                askSets(x, changed, r);
            }
            due("hints()", x.hints(), changed.places.size() > 24 ? -2 : 0);
            about = before;
            due("back(2)", x.back(2), n);
            due("about(6)", x.about(6), m.trustOf(m.all()));
        }
        askPlaces(x, m);
        due("cheapest()", x.cheapest(), cheapest);
    }

    private static void tryText(byte[] text, WhyNot x, Random r) {
        about = "PROGRAM " + new String(text, StandardCharsets.ISO_8859_1);
        if (text.length > 1580) {
            return;
        }
        feed(x, text);
        Model m;
        try {
            m = new Model(text);
        } catch (Model.Fault f) {
            due("program()", x.program(), -1);
            due("fault(0)", x.fault(0), f.which);
            due("fault(1)", x.fault(1), f.at);
            due("about(5)", x.about(5), 0);
            return;
        }
        due("program()", x.program(), m.places.size());
        due("fault(0)", x.fault(0), 0);
        due("fault(1)", x.fault(1), -1);
        askPlaces(x, m);
        askKinds(x, m, r);
        askSets(x, m, r);
        askCheapest(x, m, r);
    }

    public static void main(String[] args) {
        int from = args.length > 1 ? Integer.parseInt(args[0]) : 0;
        int to = args.length > 1 ? Integer.parseInt(args[1]) : 4000;
        int read = 0;
        WhyNot x = new WhyNot();
        for (int seed = from; seed < to && wrong < 40; seed++) {
            Random r = new Random(seed * 31L + 7);
            double[] rates = {0.0, 0.02, 0.06, 0.12, 0.3};
            Programs programs = new Programs(seed, rates[r.nextInt(rates.length)]);
            // Nothing of an earlier PROGRAM may be seen in a later one of the same object.
            if (r.nextInt(6) == 0) {
                x = new WhyNot();
            }
            String text = programs.text(2 + r.nextInt(r.nextInt(3) == 0 ? 36 : 14));
            if (r.nextInt(4) == 0) {
                tryText(programs.spoilt(text), x, r);
            }
            tryText(text.getBytes(StandardCharsets.ISO_8859_1), x, r);
            read += x.about(1) > 0 ? 1 : 0;
        }
        System.out.println("hints by sort: " + java.util.Arrays.toString(hintsOfSort) + ", cheapest of 13 to 24: "
                + searchedThrough);
        System.out.println(asked + " answers on " + read + " programs, " + wrong + " wrong");
        if (wrong != 0) {
            System.exit(1);
        }
    }
}
