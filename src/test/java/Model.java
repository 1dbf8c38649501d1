import java.util.ArrayList;
import java.util.HashMap;
import java.util.HashSet;
import java.util.List;
import java.util.Map;
import java.util.Set;

/**
 * The document told a second time, in its plainest words and with the whole Java library: programs
 * are trees of objects, kinds are terms, sets are all tried one by one, hints rewrite the text.
 * RandomRunsTest holds WhyNot against it.
 */
final class Model {

    static final Set<String> OWN = Set.of("yes", "no", "fun", "let", "in", "if", "call", "pair", "first", "second",
            "nil", "cons", "head", "tail", "add", "less", "as", "def", "num", "truth", "any", "row", "both", "from");
    static final List<String> SORTS = List.of("0", "yes", "NAME", "fun", "let", "if", "call", "pair", "first",
            "second", "nil", "cons", "head", "tail", "add", "less", "as");

    static final class Fault extends RuntimeException {
        final int which;
        final int at;

        Fault(int which, int at) {
            this.which = which;
            this.at = at;
        }
    }

    static final class Clash extends RuntimeException {
        Clash() {
            super(null, null, false, false);
        }
    }

    static final class Stop extends RuntimeException {
        final int why;

        Stop(int why) {
            super(null, null, false, false);
            this.why = why;
        }
    }

    // ---- tokens

    static final class Token {
        final String text;
        final int at;
        /** e end, w word, n number, s sign, b none. */
        final char type;

        Token(String text, int at, char type) {
            this.text = text;
            this.at = at;
            this.type = type;
        }
    }

    static List<Token> tokens(byte[] text) {
        StringBuilder all = new StringBuilder();
        for (byte b : text) {
            all.append((char) (b & 255));
        }
        String s = all.toString();
        List<Token> list = new ArrayList<>();
        int i = 0;
        while (i < s.length()) {
            char c = s.charAt(i);
            if (c == ' ' || c == '\n') {
                i++;
                continue;
            }
            java.util.regex.Matcher word = java.util.regex.Pattern.compile("[a-z]+").matcher(s).region(i, s.length());
            java.util.regex.Matcher digits = java.util.regex.Pattern.compile("[0-9]+").matcher(s).region(i, s.length());
            if (word.lookingAt()) {
                String w = word.group();
                list.add(new Token(w, i, w.length() > 8 ? 'b' : 'w'));
                i += w.length();
            } else if (digits.lookingAt()) {
                String n = digits.group();
                int after = i + n.length();
                boolean letter = after < s.length() && s.substring(after, after + 1).matches("[a-z]");
                list.add(new Token(n, i, n.length() > 4 || letter ? 'b' : 'n'));
                i = after;
            } else {
                list.add(new Token("" + c, i, c == ';' ? 's' : 'b'));
                i++;
            }
        }
        list.add(new Token("", s.length(), 'e'));
        return list;
    }

    // ---- trees

    static final class Node {
        int sort;
        int number;
        int start;
        int def;
        int value;
        String word = "";
        Node parent;
        List<Node> kids = new ArrayList<>();
        List<String> kindWords = new ArrayList<>();
        /** The fun or let, or null. */
        Node binder;
        /** The DEF, or -1. */
        int binderDef = -1;

        String print() {
            StringBuilder b = new StringBuilder();
            switch (sort) {
                case 0 -> b.append(value);
                case 1 -> b.append(value == 1 ? "yes" : "no");
                case 2 -> b.append(word);
                case 3 -> b.append("fun ").append(word);
                case 4 -> b.append("let ").append(word);
                case 16 -> b.append("as ").append(String.join(" ", kindWords));
                default -> b.append(SORTS.get(sort));
            }
            for (int i = 0; i < kids.size(); i++) {
                b.append(sort == 4 && i == 1 ? " in " : " ").append(kids.get(i).print());
            }
            return b.toString();
        }

        Node copy() {
            Node n = new Node();
            n.sort = sort;
            n.start = start;
            n.value = value;
            n.word = word;
            n.number = number;
            n.kindWords = kindWords;
            for (Node kid : kids) {
                n.kids.add(kid.copy());
            }
            return n;
        }
    }

    final List<String> defNames = new ArrayList<>();
    final List<Node> defs = new ArrayList<>();
    final List<Node> places = new ArrayList<>();
    int[] trust = new int[0];

    private List<Token> tokens;
    private int next;
    private int kindCount;

    Model() {
    }

    Model(byte[] text) {
        tokens = tokens(text);
        while (here().type != 'e') {
            need(here().text.equals("def") && defs.size() < 8);
            next++;
            need(isName());
            if (defNames.contains(here().text)) {
                throw new Fault(3, here().at);
            }
            String name = here().text;
            next++;
            Node root = readE(null, defs.size(), 0, new ArrayList<>());
            need(here().type == 's');
            next++;
            defNames.add(name);
            defs.add(root);
        }
        if (askings() > 400) {
            throw new Fault(5, text.length);
        }
        trust = new int[places.size()];
        java.util.Arrays.fill(trust, 1);
    }

    private Token here() {
        return tokens.get(next);
    }

    private boolean isName() {
        return here().type == 'w' && !OWN.contains(here().text);
    }

    private void need(boolean stands) {
        if (here().type == 'b') {
            throw new Fault(1, here().at);
        }
        if (!stands) {
            throw new Fault(2, here().at);
        }
    }

    private Node readE(Node parent, int def, int within, List<Node> scope) {
        Token t = here();
        need(t.type == 'w' || t.type == 'n');
        need(t.type == 'n' || isName() || t.text.equals("no") || SORTS.contains(t.text));
        need(within <= 20 && places.size() < 40);
        Node n = new Node();
        n.parent = parent;
        n.def = def;
        n.start = t.at;
        n.number = places.size();
        places.add(n);
        if (t.type == 'n') {
            n.value = Integer.parseInt(t.text);
        } else if (t.text.equals("yes") || t.text.equals("no")) {
            n.sort = 1;
            n.value = t.text.equals("yes") ? 1 : 0;
        } else if (isName()) {
            n.sort = 2;
            n.word = t.text;
            meaning(n, scope);
        } else {
            n.sort = SORTS.indexOf(t.text);
        }
        next++;
        if (n.sort == 3 || n.sort == 4) {
            need(isName());
            n.word = here().text;
            next++;
        }
        if (n.sort == 16) {
            readKind(n);
        }
        int kids = List.of(0, 0, 0, 1, 2, 3, 2, 2, 1, 1, 0, 2, 1, 1, 2, 2, 1).get(n.sort);
        for (int i = 0; i < kids; i++) {
            if (n.sort == 4 && i == 1) {
                need(here().text.equals("in"));
                next++;
            }
            List<Node> inner = new ArrayList<>(scope);
            if (n.sort == 3 || n.sort == 4 && i == 1) {
                inner.add(n);
            }
            n.kids.add(readE(n, def, within + 1, inner));
        }
        return n;
    }

    private void meaning(Node n, List<Node> scope) {
        for (int i = scope.size() - 1; i >= 0; i--) {
            if (scope.get(i).word.equals(n.word)) {
                n.binder = scope.get(i);
                return;
            }
        }
        n.binderDef = defNames.indexOf(n.word);
        if (n.binderDef < 0) {
            throw new Fault(4, here().at);
        }
    }

    private void readKind(Node n) {
        String w = here().text;
        need(List.of("num", "truth", "any", "row", "both", "from").contains(w) && kindCount < 20);
        kindCount++;
        n.kindWords.add(w);
        next++;
        int parts = w.equals("row") ? 1 : w.equals("both") || w.equals("from") ? 2 : 0;
        for (int i = 0; i < parts; i++) {
            readKind(n);
        }
    }

    private final Map<Node, Long> askingsOf = new HashMap<>();

    private long askings(Node n) {
        Long known = askingsOf.get(n);
        if (known != null) {
            return known;
        }
        long sum = 1;
        for (Node kid : n.kids) {
            sum += askings(kid);
        }
        if (n.sort == 2 && n.binderDef >= 0) {
            sum += askings(defs.get(n.binderDef));
        }
        if (n.sort == 2 && n.binder != null && n.binder.sort == 4) {
            sum += askings(n.binder.kids.get(0));
        }
        askingsOf.put(n, sum);
        return sum;
    }

    long askings() {
        long sum = 0;
        for (Node d : defs) {
            sum += askings(d);
        }
        return sum;
    }

    String print() {
        StringBuilder b = new StringBuilder();
        for (int d = 0; d < defs.size(); d++) {
            b.append("def ").append(defNames.get(d)).append(' ').append(defs.get(d).print()).append(";\n");
        }
        return b.toString();
    }

    // ---- kinds

    static final class Kind {
        Kind same;
        int head = -1;
        List<Kind> parts = List.of();

        Kind() {
        }

        Kind(int head, Kind... parts) {
            this.head = head;
            this.parts = List.of(parts);
        }

        Kind real() {
            Kind k = this;
            while (k.same != null) {
                k = k.same;
            }
            return k;
        }
    }

    static boolean within(Kind open, Kind k, Set<Kind> seen) {
        Kind r = k.real();
        if (r == open) {
            return true;
        }
        if (!seen.add(r)) {
            return false;
        }
        for (Kind part : r.parts) {
            if (within(open, part, seen)) {
                return true;
            }
        }
        return false;
    }

    static void alike(Kind a, Kind b) {
        Kind x = a.real();
        Kind y = b.real();
        if (x == y) {
            return;
        }
        if (x.head >= 0 && y.head < 0) {
            Kind z = x;
            x = y;
            y = z;
        }
        if (x.head < 0) {
            if (within(x, y, new HashSet<>())) {
                throw new Clash();
            }
            x.same = y;
            return;
        }
        if (x.head != y.head) {
            throw new Clash();
        }
        // Not joined themselves: a ring made by joining them would not be seen.
        for (int i = 0; i < x.parts.size(); i++) {
            alike(x.parts.get(i), y.parts.get(i));
        }
    }

    private long asked;
    private final Kind[] own = new Kind[40];

    /** The kind of an e; funs has the kinds of the NAMES of the funs round it. */
    private Kind infer(Node n, Map<Node, Kind> funs, boolean first) {
        Kind it = new Kind();
        if (first) {
            own[n.number] = it;
        }
        Kind bound = new Kind();
        Map<Node, Kind> inner = funs;
        if (n.sort == 3) {
            inner = new HashMap<>(funs);
            inner.put(n, bound);
        }
        Kind[] e = new Kind[n.kids.size()];
        for (int i = 0; i < e.length; i++) {
            e[i] = infer(n.kids.get(i), inner, first);
        }
        Kind meant = null;
        if (n.sort == 2) {
            if (n.binder != null && n.binder.sort == 3) {
                meant = funs.get(n.binder);
            } else {
                Node e0 = n.binder != null ? n.binder.kids.get(0) : defs.get(n.binderDef);
                meant = infer(e0, n.binder != null ? funs : new HashMap<>(), false);
            }
        }
        if ((asked >>> n.number & 1) == 0) {
            return it;
        }
        Kind num = new Kind(0);
        Kind truth = new Kind(1);
        Kind any = new Kind();
        switch (n.sort) {
            case 0 -> alike(it, num);
            case 1 -> alike(it, truth);
            case 2 -> alike(it, meant);
            case 3 -> alike(it, new Kind(4, bound, e[0]));
            case 4 -> alike(it, e[1]);
            case 5 -> {
                alike(e[0], truth);
                alike(e[1], it);
                alike(e[2], it);
            }
            case 6 -> alike(e[0], new Kind(4, e[1], it));
            case 7 -> alike(it, new Kind(3, e[0], e[1]));
            case 8 -> alike(e[0], new Kind(3, it, any));
            case 9 -> alike(e[0], new Kind(3, any, it));
            case 10 -> alike(it, new Kind(2, any));
            case 11 -> {
                alike(it, new Kind(2, e[0]));
                alike(it, e[1]);
            }
            case 12 -> alike(e[0], new Kind(2, it));
            case 13 -> {
                alike(it, new Kind(2, any));
                alike(it, e[0]);
            }
            case 14 -> {
                alike(it, num);
                alike(e[0], num);
                alike(e[1], num);
            }
            case 15 -> {
                alike(it, truth);
                alike(e[0], num);
                alike(e[1], num);
            }
            default -> {
                Kind told = told(n.kindWords.listIterator());
                alike(it, told);
                alike(e[0], told);
            }
        }
        return it;
    }

    private static Kind told(java.util.Iterator<String> words) {
        return switch (words.next()) {
            case "num" -> new Kind(0);
            case "truth" -> new Kind(1);
            case "any" -> new Kind();
            case "row" -> new Kind(2, told(words));
            case "both" -> new Kind(3, told(words), told(words));
            default -> new Kind(4, told(words), told(words));
        };
    }

    boolean clash(long set) {
        asked = set;
        try {
            for (Node d : defs) {
                infer(d, new HashMap<>(), true);
            }
            return false;
        } catch (Clash c) {
            return true;
        }
    }

    long all() {
        return (1L << places.size()) - 1;
    }

    boolean fits() {
        return !clash(all());
    }

    List<Integer> kindOf(int place) {
        List<Integer> numbers = new ArrayList<>();
        if (fits()) {
            tell(own[place], numbers, new ArrayList<>());
        }
        return numbers;
    }

    private static void tell(Kind k, List<Integer> numbers, List<Kind> opens) {
        if (numbers.size() >= 500) {
            return;
        }
        Kind r = k.real();
        if (r.head < 0) {
            if (!opens.contains(r)) {
                opens.add(r);
            }
            numbers.add(10 + opens.indexOf(r));
            return;
        }
        numbers.add(r.head);
        for (Kind part : r.parts) {
            tell(part, numbers, opens);
        }
    }

    long core() {
        return coreOf(all());
    }

    private long coreOf(long set) {
        long rest = set;
        if (!clash(rest)) {
            return 0;
        }
        for (int p = 0; p < places.size(); p++) {
            if (clash(rest & ~(1L << p))) {
                rest &= ~(1L << p);
            }
        }
        return rest;
    }

    boolean meets(int a, int b) {
        if (clash(all())) {
            throw new IllegalStateException();
        }
        try {
            alike(own[a], own[b]);
            return true;
        } catch (Clash c) {
            return false;
        }
    }

    // ---- sets, all tried

    private boolean[] clashing;

    private boolean[] table() {
        if (clashing == null) {
            clashing = new boolean[1 << places.size()];
            for (int s = 0; s < clashing.length; s++) {
                clashing[s] = clash(s);
            }
        }
        return clashing;
    }

    /** Whether a property that some sets have is had by none of a set's parts. */
    private interface Has {
        boolean of(int set);
    }

    private List<Long> least(Has has) {
        List<Long> list = new ArrayList<>();
        int n = table().length;
        for (int s = 0; s < n; s++) {
            boolean least = has.of(s);
            for (int part = (s - 1) & s; least && part != s; part = (part - 1) & s) {
                least = !has.of(part);
                if (part == 0) {
                    break;
                }
            }
            if (s == 0) {
                least = has.of(0);
            }
            if (least) {
                list.add((long) s);
            }
        }
        return list;
    }

    List<Long> cores() {
        boolean[] t = table();
        return least(s -> t[s]);
    }

    List<Long> mends() {
        boolean[] t = table();
        int full = t.length - 1;
        return least(s -> !t[full & ~s]);
    }

    int trustOf(long set) {
        int sum = 0;
        for (int p = 0; p < places.size(); p++) {
            if ((set >>> p & 1) == 1) {
                sum += trust[p];
            }
        }
        return sum;
    }

    /** All MENDS are tried, of at most 16 PLACES or so. */
    long cheapest() {
        long best = all();
        for (long s = 0; s <= all(); s++) {
            if (trustOf(s) < trustOf(best) && !clash(all() & ~s) || s < best && trustOf(s) == trustOf(best) && !clash(all() & ~s)) {
                best = s;
            }
        }
        return best;
    }

    private static final int MANY_TRIED = 4000;
    private long bestFound;
    private final Set<Long> tried = new HashSet<>();

    /**
     * Of more PLACES than all sets of can be tried: of each clash that is left one PLACE must be out.
     * -1 if that takes too long.
     */
    long cheapestSearched() {
        bestFound = all();
        tried.clear();
        search(0);
        return tried.size() < MANY_TRIED ? bestFound : -1;
    }

    private void search(long out) {
        int more = trustOf(out) - trustOf(bestFound);
        if (more > 0 || tried.size() >= MANY_TRIED || !tried.add(out)) {
            return;
        }
        long clash = coreOf(all() & ~out);
        if (clash == 0 && (more < 0 || out < bestFound)) {
            bestFound = out;
        }
        for (int p = 0; p < places.size(); p++) {
            if ((clash >>> p & 1) == 1) {
                search(out | 1L << p);
            }
        }
    }

    long cheapestOf(List<Long> mends) {
        long best = mends.get(0);
        for (long mend : mends) {
            if (trustOf(mend) < trustOf(best)) {
                best = mend;
            }
        }
        return best;
    }

    // ---- hints

    record Hint(int place, int sort, int i, Model changed) {
    }

    /** The PROGRAM read again from its text with one place told otherwise; null if it is none. */
    private Model changed(int place, int sort, String name) {
        Model draft = new Model();
        draft.defNames.addAll(defNames);
        List<Integer> starts = new ArrayList<>();
        for (Node d : defs) {
            Node copy = d.copy();
            Node at = find(copy, place);
            if (at != null) {
                if (sort == 0) {
                    int last = at.kids.size() - 1;
                    Node kid = at.kids.remove(last - 1);
                    at.kids.add(kid);
                } else if (sort == 1) {
                    at.word = name;
                } else if (sort == 2) {
                    at.sort = 1;
                    at.value = 1;
                } else if (sort == 3) {
                    at.sort = 0;
                    at.value = 0;
                } else {
                    at.sort = 10;
                    at.kids.clear();
                    at.start = 0;
                }
            }
            draft.defs.add(copy);
            starts(copy, starts);
        }
        try {
            Model read = new Model(draft.print().getBytes(java.nio.charset.StandardCharsets.ISO_8859_1));
            for (int p = 0; p < read.places.size(); p++) {
                read.places.get(p).start = starts.get(p);
            }
            return read;
        } catch (Fault f) {
            if (f.which != 5) {
                throw f;
            }
            return null;
        }
    }

    private static void starts(Node n, List<Integer> list) {
        list.add(n.start);
        for (Node kid : n.kids) {
            starts(kid, list);
        }
    }

    private static Node find(Node n, int place) {
        if (n.number == place) {
            return n;
        }
        for (Node kid : n.kids) {
            Node f = find(kid, place);
            if (f != null) {
                return f;
            }
        }
        return null;
    }

    List<String> namesAt(Node n) {
        List<String> names = new ArrayList<>();
        Node below = n;
        for (Node up = n.parent; up != null; up = up.parent) {
            boolean told = up.sort == 3 || up.sort == 4 && up.kids.get(1) == below;
            if (told && !names.contains(up.word)) {
                names.add(up.word);
            }
            below = up;
        }
        for (int d = n.def - 1; d >= 0; d--) {
            if (!names.contains(defNames.get(d))) {
                names.add(defNames.get(d));
            }
        }
        return names;
    }

    List<Hint> hints(long cheapest) {
        List<Hint> list = new ArrayList<>();
        for (Node n : places) {
            if ((cheapest >>> n.number & 1) == 0) {
                continue;
            }
            for (int sort = 0; sort < 5; sort++) {
                List<String> ways = List.of("");
                if (sort == 0 && !Set.of(5, 6, 7, 11, 14, 15).contains(n.sort) || sort == 1 && n.sort != 2
                        || sort == 2 && n.sort != 0 || sort == 3 && n.sort != 1) {
                    ways = List.of();
                } else if (sort == 1) {
                    ways = namesAt(n);
                }
                for (int i = 0; i < ways.size(); i++) {
                    Model changed = changed(n.number, sort, ways.get(i));
                    if (changed != null && changed.fits() && list.size() < 40) {
                        list.add(new Hint(n.number, sort, i, changed));
                    }
                }
            }
        }
        return list;
    }

    // ---- runs

    record Fun(Node fun, Map<Node, Object> names) {
    }

    record Both(Object one, Object two) {
    }

    /** Of the latest run: how many PLACES were worked out, and within how many others the deepest. */
    int worked;
    int deepest;

    private Object eval(Node n, Map<Node, Object> names, int within) {
        worked++;
        deepest = Math.max(deepest, within);
        if (worked > 4000 || within > 150) {
            throw new Stop(-4);
        }
        int in = within + 1;
        switch (n.sort) {
            case 0:
                return n.value;
            case 1:
                return n.value == 1;
            case 2:
                if (n.binderDef >= 0) {
                    return eval(defs.get(n.binderDef), new HashMap<>(), in);
                }
                return n.binder.sort == 3 ? names.get(n.binder) : eval(n.binder.kids.get(0), names, in);
            case 3:
                return new Fun(n, names);
            case 4:
                return eval(n.kids.get(1), names, in);
            case 5:
                return eval(n.kids.get((Boolean) is(eval(n.kids.get(0), names, in), Boolean.class) ? 1 : 2), names, in);
            case 10:
                return new ArrayList<Object>();
            case 16:
                return eval(n.kids.get(0), names, in);
            default:
                break;
        }
        List<Object> e = new ArrayList<>();
        for (Node kid : n.kids) {
            e.add(eval(kid, names, in));
        }
        switch (n.sort) {
            case 6: {
                Fun f = (Fun) is(e.get(0), Fun.class);
                Map<Node, Object> inner = new HashMap<>(f.names);
                inner.put(f.fun, e.get(1));
                return eval(f.fun.kids.get(0), inner, in);
            }
            case 7:
                return new Both(e.get(0), e.get(1));
            case 8:
                return ((Both) is(e.get(0), Both.class)).one;
            case 9:
                return ((Both) is(e.get(0), Both.class)).two;
            case 11: {
                List<Object> row = new ArrayList<>((List<?>) is(e.get(1), List.class));
                row.add(0, e.get(0));
                return row;
            }
            case 12:
                return notEmpty(e.get(0)).get(0);
            case 13: {
                List<?> row = notEmpty(e.get(0));
                return new ArrayList<Object>(row.subList(1, row.size()));
            }
            case 14:
                return (Integer) is(e.get(0), Integer.class) + (Integer) is(e.get(1), Integer.class);
            default:
                return (Integer) is(e.get(0), Integer.class) < (Integer) is(e.get(1), Integer.class);
        }
    }

    private static Object is(Object value, Class<?> head) {
        if (!head.isInstance(value)) {
            throw new Stop(-2);
        }
        return value;
    }

    private static List<?> notEmpty(Object value) {
        List<?> row = (List<?>) is(value, List.class);
        if (row.isEmpty()) {
            throw new Stop(-3);
        }
        return row;
    }

    int[] run() {
        worked = 0;
        deepest = 0;
        try {
            Object v = eval(defs.get(defs.size() - 1), new HashMap<>(), 0);
            if (v instanceof Integer i) {
                return new int[] {0, i};
            } else if (v instanceof Boolean b) {
                return new int[] {1, b ? 1 : 0};
            } else if (v instanceof List<?> row) {
                return new int[] {2, row.size()};
            }
            return new int[] {v instanceof Both ? 3 : 4, 0};
        } catch (Stop s) {
            return new int[] {s.why, 0};
        }
    }
}
