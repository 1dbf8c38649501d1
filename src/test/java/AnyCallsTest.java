import java.nio.charset.StandardCharsets;
import java.util.Random;

/** Any calls in any order, with arguments of all sizes: none may throw, and like runs answer alike. */
public final class AnyCallsTest {
    private static final int[] ODD = {0, 1, 2, 3, -1, 5, 12, 24, 30, 40, 41, 63, 64, 100, 101, 1000, 1001, 1600,
        Integer.MAX_VALUE, Integer.MIN_VALUE};

    private static int number(Random r) {
        return r.nextInt(3) == 0 ? ODD[r.nextInt(ODD.length)] : r.nextInt(14);
    }

    private static long call(WhyNot x, Random r) {
        int a = number(r);
        int b = number(r);
        switch (r.nextInt(30)) {
            case 0:
                return x.feed(r.nextInt(), r.nextInt(), r.nextInt(), r.nextInt(), r.nextInt());
            case 1:
                return x.end(a);
            case 2:
                return r.nextInt(4) == 0 ? x.program() : 0;
            case 3:
                return x.fault(a);
            case 4:
                return x.place(a, b);
            case 5:
                return x.fits();
            case 6:
                return x.kind(a, b);
            case 7:
                return x.clashes(r.nextBoolean() ? r.nextLong() : r.nextInt(1 << 12));
            case 8:
                return x.core();
            case 9:
                return x.meets(a, b);
            case 10:
                return x.cores();
            case 11:
                return x.coreAt(a);
            case 12:
                return x.trust(a, b);
            case 13:
                return x.cheapest();
            case 14:
                return x.mends();
            case 15:
                return x.mendAt(a);
            case 16:
                return x.hints();
            case 17:
                return x.hint(a, b);
            case 18:
                return x.apply(a);
            case 19:
                return x.run(a);
            case 20:
                return x.right(a);
            case 21:
                return x.untell(a) ? 1 : 0;
            case 22:
                return x.later(a);
            case 23:
                return x.left(a);
            case 24:
                return x.sure(a);
            case 25:
                return x.image(a);
            case 26:
                return x.back(a);
            default:
                return x.about(a);
        }
    }

    private static void feed(WhyNot x, byte[] text) {
        x.end(0);
        for (int i = 0; i < text.length; i += 20) {
            int[] n = new int[5];
            for (int k = 0; k < 20; k++) {
                int b = i + k < text.length ? text[i + k] & 255 : 32;
                n[k / 4] = n[k / 4] << 8 | b;
            }
            x.feed(n[0], n[1], n[2], n[3], n[4]);
        }
    }

    private static long run(long seed) {
        Random r = new Random(seed);
        WhyNot x = new WhyNot();
        long sum = 0;
        for (int i = 0; i < 420; i++) {
            if (r.nextInt(50) == 0) {
                Programs p = new Programs(r.nextLong(), r.nextDouble() * 0.3);
                String text = p.text(2 + r.nextInt(30));
                feed(x, r.nextInt(5) == 0 ? p.spoilt(text) : text.getBytes(StandardCharsets.ISO_8859_1));
                sum = 31 * sum + x.program();
            }
            sum = 31 * sum + call(x, r);
        }
        return sum;
    }

    public static void main(String[] args) {
        int runs = args.length > 0 ? Integer.parseInt(args[0]) : 1500;
        int wrong = 0;
        for (int seed = 0; seed < runs; seed++) {
            if (run(seed) != run(seed)) {
                wrong++;
                System.out.println("run " + seed + " answers otherwise the second time");
            }
        }
        System.out.println("AnyCallsTest: " + runs + " runs, " + wrong + " wrong");
        if (wrong != 0) {
            System.exit(1);
        }
    }
}
