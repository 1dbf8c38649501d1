import java.util.ArrayList;
import java.util.List;
import java.util.Random;

/** Makes texts of programs: most are read, some fit, some clash, some are spoilt. */
final class Programs {
    private static final String[] WORDS = {"x", "y", "f", "g", "acc", "longname", "e", "kind", "n"};
    private static final String[] DEF_WORDS = {"a", "b", "c", "d", "main", "x", "id", "twice", "f", "z"};
    private final Random random;
    private final double wrong;
    private int budget;

    private record Name(String word, char goal) {
    }

    Programs(long seed, double wrong) {
        random = new Random(seed);
        this.wrong = wrong;
    }

    private boolean chance(double of) {
        return random.nextDouble() < of;
    }

    /** About so many PLACES. */
    String text(int places) {
        StringBuilder b = new StringBuilder();
        List<Name> scope = new ArrayList<>();
        List<String> told = new ArrayList<>();
        int defs = 1 + random.nextInt(Math.max(1, Math.min(8, places / 3)));
        int left = places;
        for (int d = 0; d < defs; d++) {
            String word = DEF_WORDS[random.nextInt(DEF_WORDS.length)];
            if (told.contains(word)) {
                continue;
            }
            budget = d == defs - 1 ? left : Math.max(1, places / defs);
            left -= budget;
            char goal = goal();
            b.append("def ").append(word).append(' ').append(e(goal, scope, 0)).append(blank(";"));
            told.add(word);
            scope.add(new Name(word, goal));
            if (left <= 0) {
                break;
            }
        }
        return b.toString();
    }

    private String blank(String sign) {
        return chance(0.5) ? sign : sign + (chance(0.5) ? " " : "\n");
    }

    private char goal() {
        return "nnntrpfnf".charAt(random.nextInt(9));
    }

    private String word() {
        return WORDS[random.nextInt(WORDS.length)];
    }

    /** Goals: n number, t truth, r row of numbers, p pair, f fun from number to number. */
    private String e(char asked, List<Name> scope, int deep) {
        char goal = chance(wrong) ? goal() : asked;
        budget--;
        if (!scope.isEmpty() && chance(0.4)) {
            List<Name> fit = new ArrayList<>();
            for (Name n : scope) {
                if (n.goal == goal || chance(wrong)) {
                    fit.add(n);
                }
            }
            if (!fit.isEmpty()) {
                return fit.get(random.nextInt(fit.size())).word;
            }
        }
        if (budget <= 1 || deep > 18) {
            return leaf(goal, scope);
        }
        int way = random.nextInt(10);
        if (way == 0) {
            char first = goal();
            String w = word();
            String told = e(first, scope, deep + 1);
            return "let " + w + " " + told + " in " + e(goal, with(scope, w, first), deep + 1);
        }
        if (way == 1) {
            return "if " + e('t', scope, deep + 1) + " " + e(goal, scope, deep + 1) + " " + e(goal, scope, deep + 1);
        }
        if (way == 2) {
            return (chance(0.5) ? "first pair " + e(goal, scope, deep + 2) + " " + e(goal(), scope, deep + 2)
                    : "second pair " + e(goal(), scope, deep + 2) + " " + e(goal, scope, deep + 2));
        }
        if (way == 3) {
            String w = word();
            return "call fun " + w + " " + e(goal, with(scope, w, 'n'), deep + 2) + " " + e('n', scope, deep + 1);
        }
        if (way == 4 && chance(0.5)) {
            return "as " + kind(goal) + " " + e(goal, scope, deep + 1);
        }
        return own(goal, scope, deep);
    }

    private static List<Name> with(List<Name> scope, String word, char goal) {
        List<Name> inner = new ArrayList<>(scope);
        inner.removeIf(n -> n.word.equals(word));
        inner.add(new Name(word, goal));
        return inner;
    }

    private String kind(char goal) {
        if (chance(wrong)) {
            return "any";
        }
        switch (goal) {
            case 'n':
                return "num";
            case 't':
                return "truth";
            case 'r':
                return chance(0.5) ? "row num" : "row any";
            case 'p':
                return chance(0.5) ? "both num any" : "both any any";
            default:
                return chance(0.5) ? "from num num" : "from any any";
        }
    }

    private String leaf(char goal, List<Name> scope) {
        switch (goal) {
            case 'n':
                return "" + random.nextInt(chance(0.1) ? 10000 : 9);
            case 't':
                return chance(0.5) ? "yes" : "no";
            case 'r':
                return "nil";
            case 'p':
                return "pair 1 yes";
            default:
                return "fun x x";
        }
    }

    private String own(char goal, List<Name> scope, int deep) {
        int next = deep + 1;
        switch (goal) {
            case 'n': {
                int way = random.nextInt(6);
                if (way < 3) {
                    return "add " + e('n', scope, next) + " " + e('n', scope, next);
                }
                if (way < 5) {
                    return "call " + e('f', scope, next) + " " + e('n', scope, next);
                }
                return "head " + e('r', scope, next);
            }
            case 't':
                return "less " + e('n', scope, next) + " " + e('n', scope, next);
            case 'r':
                return chance(0.7) ? "cons " + e('n', scope, next) + " " + e('r', scope, next) : "tail " + e('r', scope, next);
            case 'p':
                return "pair " + e('n', scope, next) + " " + e(goal(), scope, next);
            default: {
                String w = word();
                return "fun " + w + " " + e('n', with(scope, w, 'n'), next);
            }
        }
    }

    /** A text with some of its bytes told otherwise. */
    byte[] spoilt(String text) {
        StringBuilder b = new StringBuilder(text);
        String[] bits = {";", "def ", " ", "\n", "1", "12345", "9a", "x", "abcdefghi", "in ", "let ", "as ", "num ",
            "row ", "fun ", "}", "A", "if ", "no", "\u00e9", "call ", "any "};
        int times = 1 + random.nextInt(3);
        for (int i = 0; i < times && b.length() > 0; i++) {
            int at = random.nextInt(b.length());
            switch (random.nextInt(3)) {
                case 0:
                    b.deleteCharAt(at);
                    break;
                case 1:
                    b.insert(at, bits[random.nextInt(bits.length)]);
                    break;
                default:
                    b.delete(at, Math.min(b.length(), at + random.nextInt(8)));
                    break;
            }
        }
        return b.toString().getBytes(java.nio.charset.StandardCharsets.ISO_8859_1);
    }
}
