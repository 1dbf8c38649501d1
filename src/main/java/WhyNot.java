/**
 * A why-not judge: reads a small program, and tells which of its places can't be right together,
 * what could be left out or changed so that all fits, and what the program works out to.
 */
public final class WhyNot {

    public static final int NONE = -1;

    private static final int MAX_TEXT = 1600;
    private static final int FED_BYTES = 20;
    private static final int MAX_DEFS = 8;
    private static final int MAX_PLACES = 40;
    private static final int MAX_KIND_WORDS = 20;
    private static final int MAX_WITHIN = 20;
    private static final int MAX_ASKINGS = 400;
    private static final int MAX_NUMBERS = 500;
    private static final int MAX_RIGHT = 30;
    private static final int MAX_TIME = 100000;
    private static final int MAX_LATER = 1000;
    private static final int MAX_TRUST = 100;
    private static final int MAX_HINTS = 40;
    private static final int MAX_WORKED = 4000;
    private static final int MAX_RUN_WITHIN = 150;
    private static final int BOXES = 3;

    /** Above these numbers of PLACES a question is SPENT. */
    private static final int LEAST_PLACES = 12;
    private static final int CHEAPEST_PLACES = 24;
    private static final int SPENT = -2;

    /** Far above what any loop over a pile of waiting things can need. */
    private static final int MANY_TURNS = 1000000;

    /** What a run can answer instead of a HEAD. */
    private static final int OTHER_HEAD = -2;
    private static final int EMPTY_ROW = -3;
    private static final int RUN_SPENT = -4;

    private static final int FAULT_TOKEN = 1;
    private static final int FAULT_STANDING = 2;
    private static final int FAULT_TOLD = 3;
    private static final int FAULT_UNKNOWN = 4;
    private static final int FAULT_ASKINGS = 5;

    /** The sorts of PLACES. */
    private static final int NUMBER = 0;
    private static final int YES_NO = 1;
    private static final int NAME = 2;
    private static final int FUN = 3;
    private static final int LET = 4;
    private static final int IF = 5;
    private static final int CALL = 6;
    private static final int PAIR = 7;
    private static final int FIRST = 8;
    private static final int SECOND = 9;
    private static final int NIL = 10;
    private static final int CONS = 11;
    private static final int HEAD = 12;
    private static final int TAIL = 13;
    private static final int ADD = 14;
    private static final int LESS = 15;
    private static final int AS = 16;

    /** How many e stand behind the first word, by sort. */
    private static final int[] ARITY = {0, 0, 0, 1, 2, 3, 2, 2, 1, 1, 0, 2, 1, 1, 2, 2, 1};
    private static final int MAX_ARITY = 3;

    /** The heads of kinds; those of VALUES are the same, with FROM for a fun. */
    private static final int NUM = 0;
    private static final int TRUTH = 1;
    private static final int ROW = 2;
    private static final int BOTH = 3;
    private static final int FROM = 4;
    private static final int OPEN = 5;
    private static final int FIRST_OPEN = 10;

    /** How many kinds stand behind the word of a kind, by head. */
    private static final int[] KIND_ARITY = {0, 0, 1, 2, 2, 0};

    /** The sorts of changes that hints tell. */
    private static final int SWAP = 0;
    private static final int RENAME = 1;
    private static final int TO_YES = 2;
    private static final int TO_ZERO = 3;
    private static final int TO_NIL = 4;
    private static final int CHANGES = 5;

    /**
     * The words that stand for themselves, a blank behind each: no and yes at their numbers, those
     * of e from fun to as at their sorts, those of kinds from num on by their heads.
     */
    private static final String WORDS =
            "no yes def fun let if call pair first second nil cons head tail add less as num truth row both from any in ";
    private static final int WORD_COUNT = 24;
    private static final int WORD_LETTERS = 8;
    private static final int WORD_YES = 1;
    private static final int WORD_DEF = 2;
    private static final int WORD_KINDS = 17;
    private static final int WORD_IN = 23;

    private static final int TOKEN_END = 0;
    private static final int TOKEN_WORD = 1;
    private static final int TOKEN_NUMBER = 2;
    private static final int TOKEN_SIGN = 3;
    private static final int TOKEN_BAD = 4;

    private final byte[] tape = new byte[MAX_TEXT];
    private int taped;
    private int time;
    private final Tree tree = new Tree();
    private final Draft draft = new Draft();
    private final Kinds kinds = new Kinds();
    private final Reader reader = new Reader(tape, draft.tree);
    private final Askings askings = new Askings(tree, kinds);
    private final Askings draftAskings = new Askings(draft.tree, kinds);
    private final LeastSets leastSets = new LeastSets(askings);
    private final CheapestMend cheapestMend = new CheapestMend(tree, askings);
    private final HintList hintList = new HintList(tree, draft, draftAskings);
    private final Machine machine = new Machine(tree);
    private final Told told = new Told();
    private final Tree[] boxes = new Tree[BOXES];
    private final boolean[] boxFilled = new boolean[BOXES];

    public WhyNot() {
        for (int box = 0; box < BOXES; box++) {
            boxes[box] = new Tree();
        }
    }

    public int feed(int a, int b, int c, int d, int e) {
        if (taped + FED_BYTES > MAX_TEXT) {
            return NONE;
        }
        tapeNumber(a);
        tapeNumber(b);
        tapeNumber(c);
        tapeNumber(d);
        tapeNumber(e);
        return taped;
    }

    public int end(int n) {
        if (n < 0 || n > taped) {
            return NONE;
        }
        taped = n;
        return n;
    }

    public int program() {
        int length = taped;
        taped = 0;
        if (!reader.readText(length)) {
            return NONE;
        }
        draftAskings.list();
        if (draftAskings.tooMany) {
            reader.refuseAskings(length);
            return NONE;
        }
        for (int box = 0; box < BOXES; box++) {
            boxFilled[box] = false;
        }
        return goOnWith(draft.tree);
    }

    public int fault(int what) {
        if (what == 0) {
            return reader.fault;
        }
        return what == 1 ? reader.faultAt : NONE;
    }

    public int place(int place, int what) {
        if (!tree.has(place)) {
            return NONE;
        }
        switch (what) {
            case 0:
                return tree.sort[place];
            case 1:
                return tree.start[place];
            case 2:
                return tree.def[place];
            case 3:
                return tree.value[place];
            default:
                return NONE;
        }
    }

    public int fits() {
        return askings.allFit() ? 1 : 0;
    }

    public int kind(int place, int i) {
        // The kinds of the last question may be of another set of PLACES: they are found anew.
        if (!tree.has(place) || askings.clashOf(tree.all())) {
            return NONE;
        }
        return kinds.numberAt(askings.nodeOf(place), i);
    }

    public int clashes(long places) {
        if (!tree.hasAll(places)) {
            return NONE;
        }
        return askings.clashOf(places) ? 1 : 0;
    }

    public long core() {
        return askings.coreOfAll();
    }

    public int meets(int a, int b) {
        if (!tree.has(a) || !tree.has(b) || !askings.allFit()) {
            return NONE;
        }
        return askings.meet(a, b) ? 1 : 0;
    }

    public int cores() {
        if (tree.places > LEAST_PLACES) {
            return SPENT;
        }
        leastSets.find(tree.places);
        return leastSets.clashCount;
    }

    public long coreAt(int i) {
        if (tree.places > LEAST_PLACES) {
            return NONE;
        }
        leastSets.find(tree.places);
        return leastSets.clashAt(i);
    }

    public int trust(int place, int trust) {
        if (!tree.has(place) || trust < 1 || trust > MAX_TRUST) {
            return NONE;
        }
        int before = tree.trust[place];
        tree.trust[place] = trust;
        cheapestMend.found = false;
        hintList.found = false;
        return before;
    }

    public long cheapest() {
        if (tree.places > CHEAPEST_PLACES) {
            return SPENT;
        }
        return cheapestMend.find();
    }

    public int mends() {
        if (tree.places > LEAST_PLACES) {
            return SPENT;
        }
        leastSets.find(tree.places);
        return leastSets.mendCount;
    }

    public long mendAt(int i) {
        if (tree.places > LEAST_PLACES) {
            return NONE;
        }
        leastSets.find(tree.places);
        return leastSets.mendNumbered(i);
    }

    public int hints() {
        if (tree.places > CHEAPEST_PLACES) {
            return SPENT;
        }
        hintList.list(cheapestMend.find());
        return hintList.count;
    }

    public int hint(int hint, int what) {
        if (tree.places > CHEAPEST_PLACES) {
            return NONE;
        }
        hintList.list(cheapestMend.find());
        if (!hintList.has(hint)) {
            return NONE;
        }
        switch (what) {
            case 0:
                return hintList.place[hint];
            case 1:
                return hintList.change[hint];
            case 2:
                return hintList.choice[hint];
            default:
                return NONE;
        }
    }

    public int apply(int hint) {
        if (tree.places > CHEAPEST_PLACES) {
            return NONE;
        }
        hintList.list(cheapestMend.find());
        if (!hintList.has(hint)) {
            return NONE;
        }
        draft.write(tree, hintList.place[hint], hintList.change[hint], hintList.choice[hint]);
        return goOnWith(draft.tree);
    }

    public int run(int what) {
        if (tree.defs == 0 || what < 0 || what > 1) {
            return NONE;
        }
        machine.work();
        return what == 0 ? machine.resultHead : machine.resultNumber;
    }

    public int right(int place) {
        if (!tree.has(place)) {
            return NONE;
        }
        return told.tell(place, time);
    }

    public boolean untell(int right) {
        return told.takeBack(right, time);
    }

    public int later(int by) {
        if (by < 0 || by > MAX_LATER || time + by > MAX_TIME) {
            return NONE;
        }
        time += by;
        return time;
    }

    public int left(int k) {
        if (tree.places > LEAST_PLACES) {
            return SPENT;
        }
        leastSets.find(tree.places);
        return leastSets.countBeside(told.countingAt(k));
    }

    public long sure(int k) {
        if (tree.places > LEAST_PLACES) {
            return SPENT;
        }
        leastSets.find(tree.places);
        return leastSets.commonBeside(told.countingAt(k));
    }

    public int image(int box) {
        if (box < 0 || box >= BOXES) {
            return NONE;
        }
        boxes[box].copyFrom(tree);
        boxFilled[box] = true;
        return tree.places;
    }

    public int back(int box) {
        if (box < 0 || box >= BOXES || !boxFilled[box]) {
            return NONE;
        }
        return goOnWith(boxes[box]);
    }

    public int about(int what) {
        switch (what) {
            case 0:
                return tree.defs;
            case 1:
                return tree.places;
            case 2:
                return askings.count;
            case 3:
                return told.count;
            case 4:
                return time;
            case 5:
                return taped;
            case 6:
                return tree.trustOfAll();
            default:
                return NONE;
        }
    }

    private void tapeNumber(int number) {
        for (int shift = 24; shift >= 0; shift -= 8) {
            if (taped >= 0 && taped < tape.length) {
                tape[taped] = (byte) (number >>> shift);
                taped++;
            }
        }
    }

    /** What was found out of the PROGRAM before does not hold of another. */
    private int goOnWith(Tree another) {
        tree.copyFrom(another);
        told.forget();
        askings.list();
        leastSets.found = false;
        cheapestMend.forget();
        hintList.found = false;
        machine.worked = NONE;
        return tree.places;
    }

    private static int kindArity(int head) {
        return head >= 0 && head < KIND_ARITY.length ? KIND_ARITY[head] : 0;
    }

    /** The PLACES of a PROGRAM by number, each with what stands there. */
    private static final class Tree {
        int defs;
        int places;
        int kindWords;
        final long[] defWord = new long[MAX_DEFS];
        final int[] defRoot = new int[MAX_DEFS];
        final int[] sort = new int[MAX_PLACES];
        final int[] start = new int[MAX_PLACES];
        final int[] def = new int[MAX_PLACES];
        final int[] value = new int[MAX_PLACES];
        final int[] trust = new int[MAX_PLACES];
        final int[] parent = new int[MAX_PLACES];
        final int[] kids = new int[MAX_ARITY * MAX_PLACES];
        /** The word that a fun or let gives to its NAME. */
        final long[] word = new long[MAX_PLACES];
        /** What a NAME means: the number of its fun or let, or MAX_PLACES and more for a DEF. */
        final int[] target = new int[MAX_PLACES];
        /** The kinds of an as: kindLength heads from kindFrom on. */
        final int[] kindFrom = new int[MAX_PLACES];
        final int[] kindLength = new int[MAX_PLACES];
        final int[] kindHead = new int[MAX_KIND_WORDS];

        void clear() {
            defs = 0;
            places = 0;
            kindWords = 0;
        }

        boolean has(int place) {
            return place >= 0 && place < places && place < MAX_PLACES;
        }

        long all() {
            return (1L << places) - 1L;
        }

        boolean hasAll(long set) {
            return (set & ~all()) == 0L;
        }

        int sortOf(int place) {
            return has(place) ? sort[place] : NONE;
        }

        int arityOf(int place) {
            int itsSort = sortOf(place);
            return itsSort >= 0 && itsSort < ARITY.length ? ARITY[itsSort] : 0;
        }

        int parentOf(int place) {
            return has(place) ? parent[place] : NONE;
        }

        int targetOf(int place) {
            return has(place) ? target[place] : NONE;
        }

        int kidOf(int place, int slot) {
            return has(place) && slot >= 0 && slot < MAX_ARITY ? kids[MAX_ARITY * place + slot] : NONE;
        }

        int rootOf(int aDef) {
            return aDef >= 0 && aDef < defs && aDef < MAX_DEFS ? defRoot[aDef] : NONE;
        }

        /** The e that a NAME of a let or DEF stands for; NONE for a NAME of a fun. */
        int meantBy(int place) {
            int binder = targetOf(place);
            if (binder >= MAX_PLACES) {
                return rootOf(binder - MAX_PLACES);
            }
            return sortOf(binder) == LET ? kidOf(binder, 0) : NONE;
        }

        /** A new last PLACE that asks nothing yet; NONE if there is no room. */
        int add(int aParent, int slot, int aDef) {
            if (places < 0 || places >= MAX_PLACES || aDef < 0 || aDef >= MAX_DEFS) {
                return NONE;
            }
            int place = places;
            places++;
            sort[place] = NIL;
            start[place] = 0;
            def[place] = aDef;
            value[place] = 0;
            trust[place] = 1;
            parent[place] = aParent;
            word[place] = 0L;
            target[place] = NONE;
            kindFrom[place] = 0;
            kindLength[place] = 0;
            for (int kid = 0; kid < MAX_ARITY; kid++) {
                kids[MAX_ARITY * place + kid] = NONE;
            }
            if (!has(aParent)) {
                defRoot[aDef] = place;
            } else if (slot >= 0 && slot < MAX_ARITY) {
                kids[MAX_ARITY * aParent + slot] = place;
            }
            return place;
        }

        /** Fills row with all that a NAME at this PLACE can mean, the nearest first: how many. */
        int choicesAt(int place, int[] row) {
            if (!has(place)) {
                return 0;
            }
            int count = 0;
            int below = place;
            int up = parent[place];
            for (int step = 0; step < MAX_PLACES && has(up); step++) {
                // A let's NAME is not told yet in its first e.
                if (sort[up] == FUN || sort[up] == LET && kids[MAX_ARITY * up + 1] == below) {
                    count = addChoice(row, count, up);
                }
                below = up;
                up = parent[up];
            }
            for (int earlier = def[place] - 1; earlier >= 0; earlier--) {
                count = addChoice(row, count, MAX_PLACES + earlier);
            }
            return count;
        }

        private int addChoice(int[] row, int count, int binder) {
            long itsWord = wordOf(binder);
            for (int i = 0; i < count && i < row.length; i++) {
                if (wordOf(row[i]) == itsWord) {
                    return count;
                }
            }
            if (count < 0 || count >= row.length) {
                return count;
            }
            row[count] = binder;
            return count + 1;
        }

        /** The word of a fun, a let or, from MAX_PLACES on, a DEF. */
        long wordOf(int binder) {
            int aDef = binder - MAX_PLACES;
            if (aDef >= 0) {
                return aDef < defs && aDef < MAX_DEFS ? defWord[aDef] : 0L;
            }
            return binder >= 0 && binder < places && binder < MAX_PLACES ? word[binder] : 0L;
        }

        int trustOfAll() {
            int sum = 0;
            for (int place = 0; place < places && place < MAX_PLACES; place++) {
                sum += trust[place];
            }
            return sum;
        }

        /** What stands at a PLACE of another PROGRAM stands here, too, but for its kids and target. */
        void copyPlace(Tree other, int from, int to) {
            if (!other.has(from) || !has(to)) {
                return;
            }
            sort[to] = other.sort[from];
            start[to] = other.start[from];
            value[to] = other.value[from];
            word[to] = other.word[from];
            kindFrom[to] = other.kindFrom[from];
            kindLength[to] = other.kindLength[from];
        }

        void copyKindWords(Tree other) {
            kindWords = other.kindWords;
            System.arraycopy(other.kindHead, 0, kindHead, 0, MAX_KIND_WORDS);
        }

        void copyFrom(Tree other) {
            defs = other.defs;
            places = other.places;
            copyKindWords(other);
            System.arraycopy(other.defWord, 0, defWord, 0, MAX_DEFS);
            System.arraycopy(other.defRoot, 0, defRoot, 0, MAX_DEFS);
            System.arraycopy(other.sort, 0, sort, 0, MAX_PLACES);
            System.arraycopy(other.start, 0, start, 0, MAX_PLACES);
            System.arraycopy(other.def, 0, def, 0, MAX_PLACES);
            System.arraycopy(other.value, 0, value, 0, MAX_PLACES);
            System.arraycopy(other.trust, 0, trust, 0, MAX_PLACES);
            System.arraycopy(other.parent, 0, parent, 0, MAX_PLACES);
            System.arraycopy(other.kids, 0, kids, 0, MAX_ARITY * MAX_PLACES);
            System.arraycopy(other.word, 0, word, 0, MAX_PLACES);
            System.arraycopy(other.target, 0, target, 0, MAX_PLACES);
            System.arraycopy(other.kindFrom, 0, kindFrom, 0, MAX_PLACES);
            System.arraycopy(other.kindLength, 0, kindLength, 0, MAX_PLACES);
        }
    }

    /** Reads a text into a Tree, up to its first FAULT. */
    private static final class Reader {
        int fault;
        int faultAt = NONE;
        private final byte[] text;
        private int length;
        private int next;
        private int token;
        private int tokenAt;
        private long tokenWord;
        private int tokenNumber;
        /** Which of the words that stand for themselves; NONE for a NAME. */
        private int tokenOwn;
        private final Tree tree;
        private final long[] ownWords = new long[WORD_COUNT];
        private final int[] begun = new int[MAX_PLACES];
        private final int[] within = new int[MAX_PLACES];
        private final int[] choices = new int[MAX_PLACES + MAX_DEFS];

        Reader(byte[] aText, Tree aTree) {
            text = aText;
            tree = aTree;
            int count = 0;
            long word = 0L;
            for (int i = 0; i < WORDS.length() && count < WORD_COUNT; i++) {
                char sign = WORDS.charAt(i);
                if (sign == ' ') {
                    ownWords[count] = word;
                    count++;
                    word = 0L;
                } else {
                    word = withLetter(word, sign);
                }
            }
        }

        /** Whether the text is a PROGRAM; its ASKINGS are not counted here. */
        boolean readText(int aLength) {
            length = aLength;
            tree.clear();
            fault = 0;
            faultAt = NONE;
            next = 0;
            readToken();
            // One turn more than there may be DEFS: the last finds the one too many.
            for (int turn = 0; turn <= MAX_DEFS && fault == 0 && token != TOKEN_END; turn++) {
                readDef();
                readExpression();
                readSign();
            }
            return fault == 0;
        }

        void refuseAskings(int at) {
            fault = FAULT_ASKINGS;
            faultAt = at;
        }

        private void faultIs(int which) {
            fault = which;
            faultAt = tokenAt;
        }

        private void refuseToken() {
            faultIs(token == TOKEN_BAD ? FAULT_TOKEN : FAULT_STANDING);
        }

        private boolean isOwn(int which) {
            return token == TOKEN_WORD && tokenOwn == which;
        }

        private boolean isName() {
            return token == TOKEN_WORD && tokenOwn == NONE;
        }

        private void readDef() {
            if (!isOwn(WORD_DEF) || tree.defs < 0 || tree.defs >= MAX_DEFS) {
                refuseToken();
                return;
            }
            readToken();
            if (!isName()) {
                refuseToken();
                return;
            }
            for (int earlier = 0; earlier < tree.defs && earlier < MAX_DEFS; earlier++) {
                if (tree.defWord[earlier] == tokenWord) {
                    faultIs(FAULT_TOLD);
                    return;
                }
            }
            tree.defWord[tree.defs] = tokenWord;
            tree.defs++;
            readToken();
        }

        /** An e with all that stands in it: PLACES are begun until none waits for one more. */
        private void readExpression() {
            int waiting = NONE;
            boolean more = fault == 0;
            for (int turn = 0; turn <= MAX_PLACES && more; turn++) {
                int place = beginPlace(waiting);
                readRest(place);
                waiting = fault == 0 ? nextWaiting(place) : NONE;
                more = waiting != NONE;
            }
        }

        private void readSign() {
            if (fault != 0) {
                return;
            }
            if (token == TOKEN_SIGN) {
                readToken();
            } else {
                refuseToken();
            }
        }

        /** The innermost PLACE round this one that waits for an e; NONE, too, at a FAULT. */
        private int nextWaiting(int place) {
            int up = place;
            for (int step = 0; step <= MAX_PLACES && tree.has(up); step++) {
                if (begun[up] < tree.arityOf(up)) {
                    boolean ready = tree.sort[up] != LET || begun[up] != 1 || readIn();
                    return ready ? up : NONE;
                }
                up = tree.parentOf(up);
            }
            return NONE;
        }

        private boolean readIn() {
            if (!isOwn(WORD_IN)) {
                refuseToken();
                return false;
            }
            readToken();
            return true;
        }

        /** The PLACE that begins at the token; NONE at a FAULT. */
        private int beginPlace(int parent) {
            int sort = sortHere();
            boolean inner = tree.has(parent);
            int deep = inner ? within[parent] + 1 : 0;
            if (sort == NONE || deep > MAX_WITHIN || tree.places >= MAX_PLACES) {
                refuseToken();
                return NONE;
            }
            int place = tree.add(parent, inner ? begun[parent] : 0, tree.defs - 1);
            if (!tree.has(place)) {
                refuseToken();
                return NONE;
            }
            if (inner) {
                begun[parent]++;
            }
            begun[place] = 0;
            within[place] = deep;
            tree.sort[place] = sort;
            tree.start[place] = tokenAt;
            tree.value[place] = valueHere(sort);
            return place;
        }

        /** What stands behind the beginning of a PLACE, but for its e. */
        private void readRest(int place) {
            if (!tree.has(place)) {
                return;
            }
            int sort = tree.sort[place];
            if (sort == NAME && !findTarget(place)) {
                faultIs(FAULT_UNKNOWN);
                return;
            }
            readToken();
            if (sort == FUN || sort == LET) {
                readBound(place);
            } else if (sort == AS) {
                readKinds(place);
            }
        }

        private int sortHere() {
            if (token == TOKEN_NUMBER) {
                return NUMBER;
            }
            if (token != TOKEN_WORD) {
                return NONE;
            }
            if (tokenOwn == NONE) {
                return NAME;
            }
            if (tokenOwn <= WORD_YES) {
                return YES_NO;
            }
            return tokenOwn >= FUN && tokenOwn <= AS ? tokenOwn : NONE;
        }

        private int valueHere(int sort) {
            if (sort == NUMBER) {
                return tokenNumber;
            }
            return sort == YES_NO ? tokenOwn : 0;
        }

        private boolean findTarget(int place) {
            if (!tree.has(place)) {
                return false;
            }
            int count = tree.choicesAt(place, choices);
            for (int i = 0; i < count && i < choices.length; i++) {
                if (tree.wordOf(choices[i]) == tokenWord) {
                    tree.target[place] = choices[i];
                    return true;
                }
            }
            return false;
        }

        private void readBound(int place) {
            if (!isName() || !tree.has(place)) {
                refuseToken();
                return;
            }
            tree.word[place] = tokenWord;
            readToken();
        }

        private void readKinds(int place) {
            if (!tree.has(place)) {
                return;
            }
            tree.kindFrom[place] = tree.kindWords;
            int missing = 1;
            for (int turn = 0; turn <= MAX_KIND_WORDS && missing > 0; turn++) {
                int head = token == TOKEN_WORD && tokenOwn != NONE ? tokenOwn - WORD_KINDS : NONE;
                if (head < NUM || head > OPEN || tree.kindWords < 0 || tree.kindWords >= MAX_KIND_WORDS) {
                    refuseToken();
                    return;
                }
                tree.kindHead[tree.kindWords] = head;
                tree.kindWords++;
                missing += kindArity(head) - 1;
                readToken();
            }
            tree.kindLength[place] = tree.kindWords - tree.kindFrom[place];
        }

        private int signAt(int at) {
            return at >= 0 && at < length && at < text.length ? text[at] & 255 : NONE;
        }

        private void readToken() {
            for (int turn = 0; turn <= MAX_TEXT && isBlank(signAt(next)); turn++) {
                next++;
            }
            tokenAt = next;
            tokenOwn = NONE;
            int sign = signAt(next);
            if (sign == NONE) {
                token = TOKEN_END;
            } else if (isLetter(sign)) {
                readWord();
            } else if (isDigit(sign)) {
                readNumber();
            } else {
                token = sign == ';' ? TOKEN_SIGN : TOKEN_BAD;
                next++;
            }
        }

        private void readWord() {
            tokenWord = 0L;
            for (int turn = 0; turn <= MAX_TEXT && isLetter(signAt(next)); turn++) {
                tokenWord = withLetter(tokenWord, signAt(next));
                next++;
            }
            token = next - tokenAt > WORD_LETTERS ? TOKEN_BAD : TOKEN_WORD;
            for (int i = 0; i < WORD_COUNT; i++) {
                if (ownWords[i] == tokenWord) {
                    tokenOwn = i;
                    return;
                }
            }
        }

        private void readNumber() {
            tokenNumber = 0;
            for (int turn = 0; turn <= MAX_TEXT && isDigit(signAt(next)); turn++) {
                tokenNumber = 10 * tokenNumber + signAt(next) - '0';
                next++;
            }
            boolean whole = next - tokenAt <= 4 && !isLetter(signAt(next));
            token = whole ? TOKEN_NUMBER : TOKEN_BAD;
        }

        /** Words of up to eight letters differ as numbers, too. */
        private static long withLetter(long word, int letter) {
            return 32L * word + (letter - 'a' + 1);
        }

        private static boolean isBlank(int sign) {
            return sign == 32 || sign == 10;
        }

        private static boolean isLetter(int sign) {
            return sign >= 'a' && sign <= 'z';
        }

        private static boolean isDigit(int sign) {
            return sign >= '0' && sign <= '9';
        }
    }

    /**
     * Kinds as nodes that are joined where they must be the same. A node that stands for its whole
     * class has the head of the class, if one is known.
     */
    private static final class Kinds {
        /** Beside each as stands the asking of its e: no more than half of all tell kinds. */
        private static final int MAX_TOLD = 200 * MAX_KIND_WORDS;
        /** Two nodes an asking, two more that it makes or those it tells, num and truth. */
        private static final int MAX_NODES = 4 * MAX_ASKINGS + MAX_TOLD + 2;

        int number;
        int truth;
        private int count;
        private final int[] same = new int[MAX_NODES];
        private final int[] head = new int[MAX_NODES];
        private final int[] one = new int[MAX_NODES];
        private final int[] two = new int[MAX_NODES];
        private final int[] tally = new int[MAX_NODES];
        private final int[] pile = new int[MAX_NODES + 2];
        private final int[] pileToo = new int[MAX_NODES + 2];

        /** So many open kinds, 0 and on, that nothing is asked of yet. */
        void begin(int opens) {
            count = 0;
            for (int i = 0; i < opens && i < MAX_NODES; i++) {
                make(OPEN, NONE, NONE);
            }
            number = make(NUM, NONE, NONE);
            truth = make(TRUTH, NONE, NONE);
        }

        int make(int itsHead, int itsOne, int itsTwo) {
            if (count < 0 || count >= MAX_NODES) {
                return NONE;
            }
            int node = count;
            count++;
            same[node] = node;
            head[node] = itsHead;
            one[node] = itsOne;
            two[node] = itsTwo;
            return node;
        }

        /** The node that stands for the class of this one. */
        private int chief(int node) {
            if (node < 0 || node >= count || node >= MAX_NODES) {
                return NONE;
            }
            int at = node;
            for (int step = 0; step < MAX_NODES && same[at] != at; step++) {
                // Each second link is made shorter, so that later searches are short.
                same[at] = same[same[at]];
                at = same[at];
            }
            return at;
        }

        /** Both are of one kind from now on: false if their heads, or those within, differ. */
        boolean join(int a, int b) {
            pile[0] = a;
            pileToo[0] = b;
            int top = 1;
            for (int turn = 0; turn < MANY_TURNS && top > 0 && top <= pile.length; turn++) {
                top--;
                int x = chief(pile[top]);
                int y = chief(pileToo[top]);
                if (x == y || x == NONE || y == NONE) {
                    continue;
                }
                if (head[x] == OPEN) {
                    same[x] = y;
                } else if (head[y] == OPEN) {
                    same[y] = x;
                } else if (head[x] != head[y]) {
                    return false;
                } else {
                    same[y] = x;
                    top = pileParts(x, y, top);
                }
            }
            return true;
        }

        private int pileParts(int x, int y, int top) {
            if (top < 0 || top + 2 > pile.length) {
                return top;
            }
            int parts = kindArity(head[x]);
            if (parts > 0) {
                pile[top] = one[x];
                pileToo[top] = one[y];
            }
            if (parts > 1) {
                pile[top + 1] = two[x];
                pileToo[top + 1] = two[y];
            }
            return top + parts;
        }

        /** Whether a kind stands within itself: then not all classes can be taken from without. */
        boolean hasRing() {
            int classes = 0;
            for (int node = 0; node < count && node < MAX_NODES; node++) {
                tally[node] = 0;
            }
            for (int node = 0; node < count && node < MAX_NODES; node++) {
                if (same[node] == node) {
                    classes++;
                    countPart(one[node]);
                    countPart(two[node]);
                }
            }
            int taken = 0;
            for (int node = 0; node < count && node < MAX_NODES; node++) {
                if (same[node] == node && tally[node] == 0) {
                    pile[taken] = node;
                    taken++;
                }
            }
            for (int i = 0; i < taken && i < MAX_NODES; i++) {
                taken = takePart(one[pile[i]], taken);
                taken = takePart(two[pile[i]], taken);
            }
            return taken < classes;
        }

        private void countPart(int part) {
            int at = chief(part);
            if (at != NONE) {
                tally[at]++;
            }
        }

        private int takePart(int part, int taken) {
            int at = chief(part);
            if (at == NONE) {
                return taken;
            }
            tally[at]--;
            if (tally[at] != 0 || taken < 0 || taken >= pile.length) {
                return taken;
            }
            pile[taken] = at;
            return taken + 1;
        }

        /** The i-th number of a node's kind, told from the outside inwards. */
        int numberAt(int node, int i) {
            for (int at = 0; at < count && at < MAX_NODES; at++) {
                tally[at] = 0;
            }
            int opens = 0;
            int top = 1;
            pile[0] = node;
            for (int told = 0; told <= i && told < MAX_NUMBERS && top > 0 && top <= pile.length; told++) {
                top--;
                int at = chief(pile[top]);
                if (at == NONE) {
                    return NONE;
                }
                if (head[at] == OPEN && tally[at] == 0) {
                    tally[at] = FIRST_OPEN + opens;
                    opens++;
                }
                if (told == i) {
                    return head[at] == OPEN ? tally[at] : head[at];
                }
                top = pileInOrder(at, top);
            }
            return NONE;
        }

        private int pileInOrder(int node, int top) {
            int parts = kindArity(head[node]);
            if (top < 0 || top + 2 > pile.length || parts == 0) {
                return top;
            }
            pile[top] = parts == 2 ? two[node] : one[node];
            if (parts == 2) {
                pile[top + 1] = one[node];
            }
            return top + parts;
        }

        int makeOpen() {
            return make(OPEN, NONE, NONE);
        }

        /** The kind told by an as, each any open for itself; read from the last word to the first. */
        int makeTold(Tree tree, int place) {
            if (!tree.has(place)) {
                return NONE;
            }
            int from = tree.kindFrom[place];
            int top = 0;
            for (int i = from + tree.kindLength[place] - 1; i >= from && i >= 0 && i < MAX_KIND_WORDS; i--) {
                int head = tree.kindHead[i];
                int parts = kindArity(head);
                int itsOne = parts > 0 && top > 0 ? pile[top - 1] : NONE;
                int itsTwo = parts > 1 && top > 1 ? pile[top - 2] : NONE;
                top = parts < top ? top - parts : 0;
                pile[top] = make(head, itsOne, itsTwo);
                top++;
            }
            return top > 0 ? pile[top - 1] : NONE;
        }
    }

    /** All ASKINGS of a PROGRAM, those made anew behind the NAME that makes them. */
    private static final class Askings {
        private static final int MAX_PILED = MAX_ASKINGS + MAX_ARITY;

        int count;
        boolean tooMany;
        private boolean fitKnown;
        private boolean fit;
        private boolean coreKnown;
        private long coreFound;
        private final Tree tree;
        private final Kinds kinds;
        private final int[] place = new int[MAX_ASKINGS];
        /** By asking and slot the node of the kind of an e, or of what a NAME means. */
        private final int[] parts = new int[MAX_ARITY * MAX_ASKINGS];
        private final int[] firstOf = new int[MAX_PLACES];
        private final int[] latestOf = new int[MAX_PLACES];
        private final int[] pilePlace = new int[MAX_PILED];
        private final int[] pileAsker = new int[MAX_PILED];
        private final int[] pileSlot = new int[MAX_PILED];
        private int piled;

        Askings(Tree aTree, Kinds someKinds) {
            tree = aTree;
            kinds = someKinds;
        }

        void list() {
            count = 0;
            tooMany = false;
            fitKnown = false;
            coreKnown = false;
            for (int i = 0; i < MAX_PLACES; i++) {
                firstOf[i] = NONE;
                latestOf[i] = NONE;
            }
            for (int def = 0; def < tree.defs && def < MAX_DEFS && !tooMany; def++) {
                piled = 0;
                pileUp(tree.rootOf(def), NONE, 0);
                for (int turn = 0; turn <= MAX_ASKINGS && piled > 0 && !tooMany; turn++) {
                    listOne();
                }
            }
        }

        private void pileUp(int aPlace, int asker, int slot) {
            if (piled >= 0 && piled < MAX_PILED) {
                pilePlace[piled] = aPlace;
                pileAsker[piled] = asker;
                pileSlot[piled] = slot;
                piled++;
            }
        }

        private void listOne() {
            piled--;
            tooMany = count < 0 || count >= MAX_ASKINGS;
            if (tooMany || piled < 0 || piled >= MAX_PILED || !tree.has(pilePlace[piled])) {
                return;
            }
            int own = count;
            count++;
            int aPlace = pilePlace[piled];
            place[own] = aPlace;
            setPart(pileAsker[piled], pileSlot[piled], kindNode(own));
            if (firstOf[aPlace] == NONE) {
                firstOf[aPlace] = own;
            }
            latestOf[aPlace] = own;
            for (int kid = tree.arityOf(aPlace) - 1; kid >= 0; kid--) {
                pileUp(tree.kidOf(aPlace, kid), own, kid);
            }
            if (tree.sort[aPlace] == NAME) {
                listMeant(aPlace, own);
            }
        }

        /**
         * No e is listed within itself, so the latest asking of a fun round a NAME is the one that
         * the NAME stands in, in a copy, too.
         */
        private void listMeant(int aPlace, int own) {
            int meant = tree.meantBy(aPlace);
            int binder = tree.targetOf(aPlace);
            if (meant != NONE) {
                pileUp(meant, own, 0);
            } else if (tree.has(binder)) {
                setPart(own, 0, boundNode(latestOf[binder]));
            }
        }

        private void setPart(int asker, int slot, int node) {
            if (asker >= 0 && asker < MAX_ASKINGS && slot >= 0 && slot < MAX_ARITY) {
                parts[MAX_ARITY * asker + slot] = node;
            }
        }

        private static int kindNode(int asking) {
            return 2 * asking;
        }

        /** The kind of the NAME of an asking fun. */
        private static int boundNode(int asking) {
            return 2 * asking + 1;
        }

        /** The node of the kind of a PLACE as it stands itself. */
        int nodeOf(int aPlace) {
            return aPlace >= 0 && aPlace < MAX_PLACES && firstOf[aPlace] != NONE ? kindNode(firstOf[aPlace]) : NONE;
        }

        boolean allFit() {
            if (!fitKnown) {
                fit = !clashOf(tree.all());
                fitKnown = true;
            }
            return fit;
        }

        long coreOfAll() {
            if (!coreKnown) {
                coreFound = allFit() ? 0L : coreWithin(tree.all());
                coreKnown = true;
            }
            return coreFound;
        }

        /** What is left of a set if PLACES are left out, by number, while it still clashes: 0 if it does not. */
        long coreWithin(long set) {
            if (!clashOf(set)) {
                return 0L;
            }
            long rest = set;
            for (int i = 0; i < MAX_PLACES; i++) {
                long without = rest & ~(1L << i);
                if (without != rest && clashOf(without)) {
                    rest = without;
                }
            }
            return rest;
        }

        boolean meet(int a, int b) {
            return !clashOf(tree.all()) && kinds.join(nodeOf(a), nodeOf(b)) && !kinds.hasRing();
        }

        boolean clashOf(long set) {
            kinds.begin(2 * count);
            for (int asking = 0; asking < count && asking < MAX_ASKINGS; asking++) {
                if ((set >>> place[asking] & 1L) != 0L && !ask(asking)) {
                    return true;
                }
            }
            return kinds.hasRing();
        }

        /** What the PLACE of an asking asks: false if that can't be beside what was asked before. */
        private boolean ask(int asking) {
            if (asking < 0 || asking >= MAX_ASKINGS) {
                return true;
            }
            int own = kindNode(asking);
            int a = parts[MAX_ARITY * asking];
            int b = parts[MAX_ARITY * asking + 1];
            int c = parts[MAX_ARITY * asking + 2];
            switch (tree.sortOf(place[asking])) {
                case NUMBER:
                    return kinds.join(own, kinds.number);
                case YES_NO:
                    return kinds.join(own, kinds.truth);
                case NAME:
                    return kinds.join(own, a);
                case FUN:
                    return kinds.join(own, kinds.make(FROM, boundNode(asking), a));
                case LET:
                    return kinds.join(own, b);
                case IF:
                    return kinds.join(a, kinds.truth) && kinds.join(b, c) && kinds.join(own, b);
                case CALL:
                    return kinds.join(a, kinds.make(FROM, b, own));
                case PAIR:
                    return kinds.join(own, kinds.make(BOTH, a, b));
                case FIRST:
                    return kinds.join(a, kinds.make(BOTH, own, kinds.makeOpen()));
                case SECOND:
                    return kinds.join(a, kinds.make(BOTH, kinds.makeOpen(), own));
                case NIL:
                    return kinds.join(own, kinds.make(ROW, kinds.makeOpen(), NONE));
                case CONS:
                    return kinds.join(b, kinds.make(ROW, a, NONE)) && kinds.join(own, b);
                case HEAD:
                    return kinds.join(a, kinds.make(ROW, own, NONE));
                case TAIL:
                    return kinds.join(a, kinds.make(ROW, kinds.makeOpen(), NONE)) && kinds.join(own, a);
                case ADD:
                    return kinds.join(a, kinds.number) && kinds.join(b, kinds.number) && kinds.join(own, kinds.number);
                case LESS:
                    return kinds.join(a, kinds.number) && kinds.join(b, kinds.number) && kinds.join(own, kinds.truth);
                case AS:
                    int told = kinds.makeTold(tree, place[asking]);
                    return kinds.join(own, told) && kinds.join(a, told);
                default:
                    return true;
            }
        }
    }

    /** All sets of at most LEAST_PLACES PLACES: which clash, which are LEAST, which leave a MEND. */
    private static final class LeastSets {
        private static final int SETS = 1 << LEAST_PLACES;
        private static final int UNKNOWN = 0;
        private static final int FITS = 1;
        private static final int CLASHES = 2;
        private static final int LEAST_CLASH = 3;
        private static final int GREATEST_FIT = 4;

        boolean found;
        int clashCount;
        int mendCount;
        private int full;
        private final Askings askings;
        private final byte[] state = new byte[SETS];

        LeastSets(Askings someAskings) {
            askings = someAskings;
        }

        void find(int places) {
            if (found || places < 0 || places > LEAST_PLACES) {
                return;
            }
            found = true;
            full = (1 << places) - 1;
            clashCount = 0;
            mendCount = 0;
            for (int set = 0; set <= full && set < SETS; set++) {
                state[set] = UNKNOWN;
            }
            // By number each set comes behind its parts: one that clashes unforeseen is LEAST.
            for (int set = 0; set <= full && set < SETS; set++) {
                if (state[set] != UNKNOWN) {
                    continue;
                }
                if (askings.clashOf(set)) {
                    markAbove(set);
                } else {
                    markBelow(grown(set));
                }
            }
        }

        /** A set that fits with all that can be added to it. */
        private int grown(int set) {
            int grown = set;
            for (int place = 0; place < LEAST_PLACES; place++) {
                int more = grown | 1 << place;
                if (more == grown || more > full || more >= SETS) {
                    continue;
                }
                boolean known = state[more] != UNKNOWN;
                boolean fit = state[more] == FITS || state[more] == GREATEST_FIT;
                if (known ? fit : !askings.clashOf(more)) {
                    grown = more;
                }
            }
            return grown;
        }

        private void markAbove(int set) {
            clashCount++;
            int rest = full & ~set;
            int more = rest;
            for (int turn = 0; turn < SETS && more > 0; turn++) {
                mark(set | more, CLASHES);
                more = more - 1 & rest;
            }
            mark(set, LEAST_CLASH);
        }

        private void markBelow(int set) {
            mendCount++;
            int part = set;
            for (int turn = 0; turn < SETS && part > 0; turn++) {
                mark(part, FITS);
                part = part - 1 & set;
            }
            mark(0, FITS);
            mark(set, GREATEST_FIT);
        }

        private void mark(int set, int aState) {
            if (set >= 0 && set < SETS) {
                state[set] = (byte) aState;
            }
        }

        long clashAt(int i) {
            int seen = 0;
            for (int set = 0; set <= full && set < SETS; set++) {
                if (state[set] == LEAST_CLASH) {
                    if (seen == i) {
                        return set;
                    }
                    seen++;
                }
            }
            return NONE;
        }

        /** What a GREATEST_FIT leaves out is a LEAST MEND; from above they come by number. */
        long mendNumbered(int i) {
            int seen = 0;
            for (int set = Math.min(full, SETS - 1); set >= 0; set--) {
                if (state[set] == GREATEST_FIT) {
                    if (seen == i) {
                        return full & ~set;
                    }
                    seen++;
                }
            }
            return NONE;
        }

        /** How many LEAST MENDS leave these PLACES alone. */
        int countBeside(long kept) {
            int seen = 0;
            for (int set = 0; set <= full && set < SETS; set++) {
                if (state[set] == GREATEST_FIT && (kept & ~set) == 0L) {
                    seen++;
                }
            }
            return seen;
        }

        /** What all LEAST MENDS have that leave these PLACES alone. */
        long commonBeside(long kept) {
            long common = full;
            boolean any = false;
            for (int set = 0; set <= full && set < SETS; set++) {
                if (state[set] == GREATEST_FIT && (kept & ~set) == 0L) {
                    common &= ~set;
                    any = true;
                }
            }
            return any ? common : 0L;
        }
    }

    /** The MEND of least TRUST: the dearest branches of a search over clashing sets are cut off. */
    private static final class CheapestMend {
        private static final int MAX_KNOWN = 512;
        private static final int LEVELS = CHEAPEST_PLACES + 2;

        boolean found;
        private long best;
        private long bestWeight;
        private int places;
        private int known;
        private final Tree tree;
        private final Askings askings;
        private final long[] clashing = new long[MAX_KNOWN];
        private final long[] weight = new long[CHEAPEST_PLACES];
        private final long[] out = new long[LEVELS];
        private final long[] kept = new long[LEVELS];
        private final long[] weightOut = new long[LEVELS];
        private final long[] waiting = new long[LEVELS];

        CheapestMend(Tree aTree, Askings someAskings) {
            tree = aTree;
            askings = someAskings;
        }

        /** Sets found to clash hold for other TRUST, too, but not for another PROGRAM. */
        void forget() {
            found = false;
            known = 0;
        }

        long find() {
            if (found || tree.places > CHEAPEST_PLACES) {
                return best;
            }
            found = true;
            begin();
            int level = 0;
            boolean fresh = true;
            for (int turn = 0; level >= 0 && level < LEVELS && turn < MANY_TURNS; turn++) {
                if (fresh) {
                    waiting[level] = branches(level);
                }
                if (waiting[level] == NONE) {
                    waiting[level] = learn(level, askings.coreWithin(tree.all() & ~out[level]));
                }
                fresh = waiting[level] != 0L;
                level = fresh ? descend(level) : level - 1;
            }
            return best;
        }

        /** A weight's lower part is the number of the set: of like ones the least number wins. */
        private void begin() {
            places = tree.places;
            best = tree.all();
            bestWeight = best + 1L;
            for (int place = 0; place < places && place < CHEAPEST_PLACES; place++) {
                long upper = (long) tree.trust[place] << CHEAPEST_PLACES;
                weight[place] = upper + (1L << place);
                bestWeight += upper;
            }
            out[0] = 0L;
            kept[0] = 0L;
            weightOut[0] = 0L;
        }

        /** The next PLACE that waits is out one level below; beside it, it is kept. */
        private int descend(int level) {
            if (level < 0 || level + 1 >= LEVELS) {
                return NONE;
            }
            long place = waiting[level] & -waiting[level];
            out[level + 1] = out[level] | place;
            kept[level + 1] = kept[level];
            weightOut[level + 1] = weightOut[level] + leastWeight(place);
            waiting[level] &= ~place;
            kept[level] |= place;
            return level + 1;
        }

        /** The PLACES of a known clash, one of which must be out; 0 for none, NONE if no clash is known. */
        private long branches(int level) {
            if (level < 0 || level >= LEVELS) {
                return 0L;
            }
            long fewest = NONE;
            long used = 0L;
            long bound = weightOut[level];
            for (int i = 0; i < known && i < MAX_KNOWN; i++) {
                if ((clashing[i] & out[level]) != 0L) {
                    continue;
                }
                long free = clashing[i] & ~kept[level];
                if (free == 0L) {
                    return 0L;
                }
                // Clashes that share nothing must each lose a PLACE: their least ones are a bound.
                if ((free & used) == 0L) {
                    used |= free;
                    bound += leastWeight(free);
                }
                if (fewest == NONE || Long.bitCount(free) < Long.bitCount(fewest)) {
                    fewest = free;
                }
            }
            return bound >= bestWeight ? 0L : fewest;
        }

        /** The branches of a clash just found; without one, what is out is the best MEND so far. */
        private long learn(int level, long clash) {
            if (level < 0 || level >= LEVELS) {
                return 0L;
            }
            if (clash == 0L) {
                best = out[level];
                bestWeight = weightOut[level];
                return 0L;
            }
            if (known >= 0 && known < MAX_KNOWN) {
                clashing[known] = clash;
                known++;
            }
            return clash & ~kept[level];
        }

        private long leastWeight(long set) {
            long least = Long.MAX_VALUE;
            for (int place = 0; place < places && place < CHEAPEST_PLACES; place++) {
                if ((set >>> place & 1L) != 0L && weight[place] < least) {
                    least = weight[place];
                }
            }
            return least;
        }
    }

    /** A PROGRAM written anew with one change. */
    private static final class Draft {
        final Tree tree = new Tree();
        private final int[] moved = new int[MAX_PLACES];
        private final int[] choices = new int[MAX_PLACES + MAX_DEFS];
        private final int[] pilePlace = new int[MAX_PLACES + MAX_ARITY];
        private final int[] pileParent = new int[MAX_PLACES + MAX_ARITY];
        private final int[] pileSlot = new int[MAX_PLACES + MAX_ARITY];
        private int piled;

        /** How many changes of one sort a PLACE allows. */
        int ways(Tree from, int place, int change) {
            int sort = from.sortOf(place);
            switch (change) {
                case SWAP:
                    return swaps(sort) ? 1 : 0;
                case RENAME:
                    return sort == NAME ? from.choicesAt(place, choices) : 0;
                case TO_YES:
                    return sort == NUMBER ? 1 : 0;
                case TO_ZERO:
                    return sort == YES_NO ? 1 : 0;
                default:
                    return 1;
            }
        }

        private static boolean swaps(int sort) {
            return sort == CALL || sort == PAIR || sort == CONS || sort == ADD || sort == LESS || sort == IF;
        }

        void write(Tree from, int at, int change, int choice) {
            tree.clear();
            tree.copyKindWords(from);
            piled = 0;
            for (int def = 0; def < from.defs && def < MAX_DEFS; def++) {
                tree.defWord[def] = from.defWord[def];
                tree.defs++;
                pileUp(from.rootOf(def), NONE, 0);
                for (int turn = 0; turn <= MAX_PLACES && piled > 0; turn++) {
                    piled--;
                    int place = pilePlace[piled];
                    int parent = pileParent[piled];
                    writePlace(from, place, tree.add(parent, pileSlot[piled], def));
                    if (place == at) {
                        changePlace(from, place, change, choice);
                    }
                    pileKids(from, place, place == at ? change : NONE);
                }
            }
        }

        private void pileUp(int place, int parent, int slot) {
            if (piled >= 0 && piled < pilePlace.length) {
                pilePlace[piled] = place;
                pileParent[piled] = parent;
                pileSlot[piled] = slot;
                piled++;
            }
        }

        private int movedTo(int place) {
            return place >= 0 && place < MAX_PLACES ? moved[place] : place;
        }

        private void writePlace(Tree from, int place, int now) {
            if (!from.has(place) || !tree.has(now)) {
                return;
            }
            moved[place] = now;
            tree.copyPlace(from, place, now);
            tree.target[now] = movedTo(from.target[place]);
        }

        private void changePlace(Tree from, int place, int change, int choice) {
            int now = movedTo(place);
            if (!tree.has(now)) {
                return;
            }
            switch (change) {
                case RENAME:
                    if (choice >= 0 && choice < from.choicesAt(place, choices) && choice < choices.length) {
                        tree.target[now] = movedTo(choices[choice]);
                    }
                    break;
                case TO_YES:
                    tree.sort[now] = YES_NO;
                    tree.value[now] = 1;
                    break;
                case TO_ZERO:
                    tree.sort[now] = NUMBER;
                    tree.value[now] = 0;
                    break;
                case TO_NIL:
                    tree.sort[now] = NIL;
                    tree.start[now] = 0;
                    tree.value[now] = 0;
                    tree.target[now] = NONE;
                    break;
                default:
                    break;
            }
        }

        /** Piled last slot first: PLACES are numbered as they come from the pile. */
        private void pileKids(Tree from, int place, int change) {
            if (change == TO_NIL) {
                return;
            }
            int arity = from.arityOf(place);
            for (int slot = arity - 1; slot >= 0; slot--) {
                int kid = slot;
                if (change == SWAP && slot >= arity - 2) {
                    kid = 2 * arity - 3 - slot;
                }
                pileUp(from.kidOf(place, kid), movedTo(place), slot);
            }
        }
    }

    /** The changes at one PLACE of the CHEAPEST by which all FITS. */
    private static final class HintList {
        boolean found;
        int count;
        final int[] place = new int[MAX_HINTS];
        final int[] change = new int[MAX_HINTS];
        final int[] choice = new int[MAX_HINTS];
        private final Tree tree;
        private final Draft draft;
        private final Askings askings;

        HintList(Tree aTree, Draft aDraft, Askings draftAskings) {
            tree = aTree;
            draft = aDraft;
            askings = draftAskings;
        }

        boolean has(int hint) {
            return hint >= 0 && hint < count && hint < MAX_HINTS;
        }

        void list(long cheapest) {
            if (found) {
                return;
            }
            found = true;
            count = 0;
            for (int at = 0; at < CHEAPEST_PLACES && at < tree.places; at++) {
                for (int sort = 0; sort < CHANGES && (cheapest >>> at & 1L) != 0L; sort++) {
                    int ways = draft.ways(tree, at, sort);
                    for (int way = 0; way < ways && count < MAX_HINTS; way++) {
                        draft.write(tree, at, sort, way);
                        askings.list();
                        if (!askings.tooMany && !askings.clashOf(draft.tree.all())) {
                            keep(at, sort, way);
                        }
                    }
                }
            }
        }

        private void keep(int at, int sort, int way) {
            if (count >= 0 && count < MAX_HINTS) {
                place[count] = at;
                change[count] = sort;
                choice[count] = way;
                count++;
            }
        }
    }

    /** Works out the last DEF's e, on a stack and a store of its own. */
    private static final class Machine {
        /** No PLACE makes more than one: its VALUE, or of a call what the fun's NAME means. */
        private static final int MAX_CELLS = MAX_WORKED;
        private static final int MAX_FRAMES = MAX_RUN_WITHIN + 1;

        int resultHead;
        int resultNumber;
        /** How many PLACES were worked out; NONE before the run. */
        int worked = NONE;
        private final Tree tree;
        /** VALUES, and what the NAMES of funs mean: a value and the cell of the next fun outwards. */
        private final int[] head = new int[MAX_CELLS];
        private final int[] one = new int[MAX_CELLS];
        private final int[] two = new int[MAX_CELLS];
        private int cells;
        private final int[] framePlace = new int[MAX_FRAMES];
        private final int[] frameNames = new int[MAX_FRAMES];
        private final int[] frameStage = new int[MAX_FRAMES];
        private final int[] frameValue = new int[MAX_FRAMES];
        private int frames;
        /** What the PLACE worked out last came to. */
        private int value;
        private int failure;

        Machine(Tree aTree) {
            tree = aTree;
        }

        void work() {
            if (worked != NONE) {
                return;
            }
            worked = 0;
            cells = 0;
            frames = 0;
            failure = 0;
            value = NONE;
            enter(tree.rootOf(tree.defs - 1), NONE);
            for (int turn = 0; turn < MANY_TURNS && frames > 0 && failure == 0; turn++) {
                step(frames - 1);
            }
            resultHead = failure != 0 ? failure : headOf(value);
            resultNumber = failure != 0 ? 0 : numberOf(value);
        }

        private void enter(int place, int names) {
            if (frames < 0 || frames >= MAX_FRAMES || worked >= MAX_WORKED) {
                failure = RUN_SPENT;
                return;
            }
            worked++;
            framePlace[frames] = place;
            frameNames[frames] = names;
            frameStage[frames] = 0;
            frameValue[frames] = NONE;
            frames++;
        }

        private void leave(int aValue) {
            value = aValue;
            frames--;
        }

        private int cell(int itsHead, int itsOne, int itsTwo) {
            if (cells < 0 || cells >= MAX_CELLS) {
                return NONE;
            }
            int at = cells;
            cells++;
            head[at] = itsHead;
            one[at] = itsOne;
            two[at] = itsTwo;
            return at;
        }

        private boolean isCell(int at) {
            return at >= 0 && at < cells && at < MAX_CELLS;
        }

        private int headOf(int at) {
            return isCell(at) ? head[at] : NONE;
        }

        private int oneOf(int at) {
            return isCell(at) ? one[at] : NONE;
        }

        private int twoOf(int at) {
            return isCell(at) ? two[at] : NONE;
        }

        /** The frame goes one stage on: an e of its PLACE is entered, or what is done with them. */
        private void step(int frame) {
            if (frame < 0 || frame >= MAX_FRAMES) {
                return;
            }
            int place = framePlace[frame];
            int names = frameNames[frame];
            int stage = frameStage[frame];
            frameStage[frame]++;
            switch (tree.sortOf(place)) {
                case NAME:
                    stepName(place, names, stage);
                    break;
                case LET:
                    enterOrLeave(tree.kidOf(place, 1), names, stage);
                    break;
                case AS:
                    enterOrLeave(tree.kidOf(place, 0), names, stage);
                    break;
                case IF:
                    stepIf(place, names, stage);
                    break;
                case CALL:
                    stepCall(frame, place, names, stage);
                    break;
                case FUN:
                    leave(cell(FROM, place, names));
                    break;
                default:
                    stepParts(frame, place, names, stage);
                    break;
            }
        }

        private void enterOrLeave(int e, int names, int stage) {
            if (stage == 0) {
                enter(e, names);
            } else {
                leave(value);
            }
        }

        /** The NAMES of funs between a NAME and what it means are not seen there. */
        private void stepName(int place, int names, int stage) {
            int binder = tree.targetOf(place);
            int seen = binder >= MAX_PLACES ? NONE : names;
            int up = tree.parentOf(place);
            for (int step = 0; step < MAX_PLACES && up != binder && up != NONE && seen != NONE; step++) {
                if (tree.sortOf(up) == FUN) {
                    seen = twoOf(seen);
                }
                up = tree.parentOf(up);
            }
            int meant = tree.meantBy(place);
            if (meant == NONE) {
                leave(oneOf(seen));
            } else {
                enterOrLeave(meant, seen, stage);
            }
        }

        private void stepIf(int place, int names, int stage) {
            if (stage == 0) {
                enter(tree.kidOf(place, 0), names);
            } else if (stage > 1) {
                leave(value);
            } else if (headOf(value) != TRUTH) {
                failure = OTHER_HEAD;
            } else {
                enter(tree.kidOf(place, oneOf(value) == 1 ? 1 : 2), names);
            }
        }

        private void stepCall(int frame, int place, int names, int stage) {
            if (stage < 2) {
                enterPart(frame, place, names, stage);
            } else if (stage > 2) {
                leave(value);
            } else if (headOf(frameValue[frame]) != FROM) {
                failure = OTHER_HEAD;
            } else {
                int fun = frameValue[frame];
                enter(tree.kidOf(oneOf(fun), 0), cell(NONE, value, twoOf(fun)));
            }
        }

        /** Before the second e is entered, the first one's VALUE is put by. */
        private void enterPart(int frame, int place, int names, int stage) {
            if (stage == 1) {
                frameValue[frame] = value;
            }
            enter(tree.kidOf(place, stage), names);
        }

        private void stepParts(int frame, int place, int names, int stage) {
            int arity = tree.arityOf(place);
            if (stage < arity) {
                enterPart(frame, place, names, stage);
            } else {
                finish(place, arity == 2 ? frameValue[frame] : value, value);
            }
        }

        /** What is done with the VALUES of one e, or of two. */
        private void finish(int place, int a, int b) {
            switch (tree.sortOf(place)) {
                case NUMBER:
                    leave(cell(NUM, tree.value[place], NONE));
                    break;
                case YES_NO:
                    leave(cell(TRUTH, tree.value[place], NONE));
                    break;
                case NIL:
                    leave(cell(ROW, NONE, NONE));
                    break;
                case PAIR:
                    leave(cell(BOTH, a, b));
                    break;
                case FIRST:
                    leaveIf(headOf(a) == BOTH, oneOf(a));
                    break;
                case SECOND:
                    leaveIf(headOf(a) == BOTH, twoOf(a));
                    break;
                case CONS:
                    leaveIf(headOf(b) == ROW, cell(ROW, a, b));
                    break;
                case HEAD:
                    leaveRow(a, oneOf(a));
                    break;
                case TAIL:
                    leaveRow(a, twoOf(a));
                    break;
                case ADD:
                    leaveIf(areNumbers(a, b), cell(NUM, oneOf(a) + oneOf(b), NONE));
                    break;
                default:
                    leaveIf(areNumbers(a, b), cell(TRUTH, oneOf(a) < oneOf(b) ? 1 : 0, NONE));
                    break;
            }
        }

        private boolean areNumbers(int a, int b) {
            return headOf(a) == NUM && headOf(b) == NUM;
        }

        private void leaveIf(boolean asItAsks, int aValue) {
            if (asItAsks) {
                leave(aValue);
            } else {
                failure = OTHER_HEAD;
            }
        }

        private void leaveRow(int row, int part) {
            if (headOf(row) == ROW && twoOf(row) == NONE) {
                failure = EMPTY_ROW;
            } else {
                leaveIf(headOf(row) == ROW, part);
            }
        }

        private int numberOf(int at) {
            int itsHead = headOf(at);
            if (itsHead == NUM || itsHead == TRUTH) {
                return oneOf(at);
            }
            if (itsHead != ROW) {
                return 0;
            }
            int length = 0;
            int rest = at;
            for (int step = 0; step < MAX_CELLS && twoOf(rest) != NONE; step++) {
                length++;
                rest = twoOf(rest);
            }
            return length;
        }
    }

    /** Which PLACES were TOLD to be right, and when. */
    private static final class Told {
        int count;
        private final int[] place = new int[MAX_RIGHT];
        private final int[] from = new int[MAX_RIGHT];
        private final int[] until = new int[MAX_RIGHT];

        void forget() {
            count = 0;
        }

        int tell(int aPlace, int time) {
            if (count < 0 || count >= MAX_RIGHT) {
                return NONE;
            }
            int number = count;
            count++;
            place[number] = aPlace;
            from[number] = time;
            until[number] = NONE;
            return number;
        }

        boolean takeBack(int number, int time) {
            if (number < 0 || number >= count || number >= MAX_RIGHT || until[number] != NONE) {
                return false;
            }
            until[number] = time;
            return true;
        }

        long countingAt(int time) {
            long set = 0L;
            for (int i = 0; i < count && i < MAX_RIGHT; i++) {
                boolean over = until[i] != NONE && until[i] <= time;
                if (from[i] <= time && !over) {
                    set |= 1L << place[i];
                }
            }
            return set;
        }
    }
}
