import java.nio.charset.StandardCharsets;

/** What the tests of edges share: texts brought to the TAPE, and answers held against those due. */
final class Edges {
    private static int asked = 0;
    private static int wrong = 0;

    private Edges() {
    }

    static void due(String sentence, String call, long got, long want) {
        asked++;
        if (got != want) {
            wrong++;
            System.out.println("\"" + sentence + "\": " + call + " answered " + got + ", due is " + want);
        }
    }

    static void due(String sentence, String call, boolean got, boolean want) {
        due(sentence, call, got ? 1 : 0, want ? 1 : 0);
    }

    static byte[] bytes(String text) {
        return text.getBytes(StandardCharsets.ISO_8859_1);
    }

    private static int number(byte[] text, int at) {
        int n = 0;
        for (int i = at; i < at + 4; i++) {
            n = n << 8 | (i < text.length ? text[i] & 255 : 32);
        }
        return n;
    }

    /** The text comes behind what is on the TAPE; nothing of it where that can't be. */
    static void tape(WhyNot x, String text) {
        byte[] b = bytes(text);
        int length = x.about(5) + b.length;
        for (int i = 0; i < b.length; i += 20) {
            x.feed(number(b, i), number(b, i + 4), number(b, i + 8), number(b, i + 12), number(b, i + 16));
        }
        x.end(length);
    }

    static int read(WhyNot x, String text) {
        x.end(0);
        tape(x, text);
        return x.program();
    }

    static WhyNot of(String text) {
        WhyNot x = new WhyNot();
        int places = read(x, text);
        if (places < 0) {
            due("a PROGRAM", text + " (fault " + x.fault(0) + " at " + x.fault(1) + ")", places, 0);
        }
        return x;
    }

    static void fault(String sentence, int which, int at, String text) {
        WhyNot x = new WhyNot();
        due(sentence, "program() of " + text, read(x, text) < 0, true);
        due(sentence, "fault(0) of " + text, x.fault(0), which);
        due(sentence, "fault(1) of " + text, x.fault(1), at);
    }

    static void taken(String sentence, int places, String text) {
        WhyNot x = new WhyNot();
        due(sentence, "program() of " + text, read(x, text), places);
        due(sentence, "fault(0) of " + text, x.fault(0), 0);
        due(sentence, "fault(1) of " + text, x.fault(1), -1);
    }

    static String times(int n, String s) {
        return s.repeat(n);
    }

    static void finish(String test) {
        System.out.println(test + ": " + asked + " answers, " + wrong + " wrong");
        if (wrong != 0) {
            System.exit(1);
        }
    }
}
