import java.util.Random;
import java.util.function.LongSupplier;

/** Runs of 512 calls, each answer against Model's, and from time to time all that can be asked. */
public final class ModelTest {
    private static final Due DUE = new Due();
    private static final int CALLS = 512;
    private static final int[] EDGES = {-2, -1, 0, 1, 2, 3, 4, 5, 6, 7, 8, 9, 19, 20, 21, 23, 24, 31, 32, 33, 119, 120, 255, 256, 257, 4999,
        5000, Integer.MIN_VALUE, Integer.MAX_VALUE};
    private static final int OUT_OF_BOUNDS = -101, ILLEGAL = -102;

    private final Random random;
    private final int seed;
    private final SevenForms x = new SevenForms();
    private final Model m = new Model();
    private final int[] refused = new int[3];
    private int left = CALLS;

    private ModelTest(int seed) {
        this.seed = seed;
        random = new Random(seed);
    }

    public static void main(String[] args) {
        int rounds = args.length > 0 ? Integer.parseInt(args[0]) : 600;
        int[] refused = new int[3];
        for (int seed = 0; seed < rounds; seed++) {
            ModelTest one = new ModelTest(seed);
            one.begin();
            one.run();
            for (int k = 0; k < 3; k++) {
                refused[k] += one.refused[k];
            }
        }
        for (int k = 0; k < 3; k++) {
            DUE.holds("answers " + (k - 4) + " were among them: " + refused[k], refused[k] > 0);
        }
        DUE.end();
    }

    private void same(String what, long got, long want) {
        left--;
        DUE.is(seed + ", call " + (CALLS - left) + ": " + what, got, want);
        if (got >= SevenForms.FULL && got <= SevenForms.BAD) {
            refused[(int) got - SevenForms.FULL]++;
        }
    }

    private void sameState() {
        String got = State.of(x);
        String want = m.state();
        DUE.holds(seed + ", behind call " + (CALLS - left) + ": got\n" + got + "due is\n" + want, got.equals(want));
    }

    /** Some runs begin with a tape that 512 calls could not type, so that write comes to its limits. */
    private void begin() {
        if (seed % 10 == 0) {
            type(Form.typed(Samples.fiveThousand()));
            read();
            write();
            left = CALLS;
        }
    }

    private void run() {
        // Some runs build much, others read much.
        int bias = random.nextInt(3);
        while (left > 0) {
            int pick = random.nextInt(100);
            if (pick < (bias == 0 ? 75 : 45)) {
                build();
            } else if (pick < 60) {
                ask();
            } else if (pick < 70) {
                write();
            } else if (pick < 80) {
                read();
            } else if (pick < 98) {
                changeTape(bias);
            } else if (bias > 0 || random.nextInt(9) == 0) {
                same("clear()", x.clear(), m.clear());
            }
            if (random.nextInt(16) == 0) {
                sameState();
            }
        }
        sameState();
    }

    private int edge() {
        return EDGES[random.nextInt(EDGES.length)];
    }

    /** Mostly below a number, sometimes at an edge. */
    private int below(int n) {
        return random.nextInt(12) == 0 ? edge() : random.nextInt(Math.max(1, n));
    }

    private int entry() {
        return below(m.count(0));
    }

    private void build() {
        int e = entry();
        long w = random.nextBoolean() ? random.nextLong() : random.nextInt(3);
        switch (random.nextInt(9)) {
            case 0 -> {
                int kind = random.nextInt(8) == 0 ? edge() : random.nextInt(4) / 3;
                same("entry(" + kind + ")", x.entry(kind), m.entry(kind));
            }
            case 1, 2 -> {
                char c = (char) (random.nextInt(4) == 0 ? random.nextInt() : 97);
                same("name(" + e + ", " + (int) c + ")", x.name(e, c), m.name(e, c));
            }
            case 3, 4, 5 -> {
                int n = random.nextInt(12) == 0 ? edge() : 1 + random.nextInt(8);
                same("put(" + e + ", " + w + ", " + n + ")", x.put(e, w, n), m.put(e, w, n));
            }
            case 6 -> {
                int b = below(6);
                same("block(" + e + ", " + b + ")", x.block(e, b), m.block(e, b));
            }
            case 7 -> {
                int b = below(6);
                int kind = below(4);
                int d = random.nextBoolean() ? edge() : 1 + random.nextInt(4);
                same("coder(" + b + ", " + kind + ", " + d + ")", x.coder(b, kind, d), m.coder(b, kind, d));
            }
            default -> {
                int what = below(5);
                same("set(" + e + ", " + what + ", " + w + ")", x.set(e, what, w), m.set(e, what, w));
            }
        }
    }

    private void ask() {
        int e = entry();
        int i = below(9);
        switch (random.nextInt(8)) {
            case 0 -> same("fault()", x.fault(), m.fault());
            case 1 -> same("of(" + e + ", " + i + ")", x.of(e, i), m.of(e, i));
            case 2 -> {
                int what = below(3);
                same("number(" + e + ", " + what + ")", x.number(e, what), m.number(e, what));
            }
            case 3, 4 -> {
                int part = below(2);
                same("at(" + e + ", " + part + ", " + i + ")", x.at(e, part, i), m.at(e, part, i));
            }
            case 5 -> {
                int b = below(6);
                int c = random.nextInt(5) - 1;
                same("coderAt(" + b + ", " + c + ")", x.coderAt(b, c), m.coderAt(b, c));
            }
            case 6 -> {
                long place = random.nextInt(5) == 0 ? random.nextLong() : below(m.count(1));
                same("peek(" + place + ")", answer(() -> x.peek(place)), answer(() -> m.peek(place)));
            }
            default -> {
                int what = below(2);
                same("count(" + what + ")", x.count(what), m.count(what));
            }
        }
    }

    private static long answer(LongSupplier call) {
        try {
            return call.getAsLong();
        } catch (ArrayIndexOutOfBoundsException e) {
            return OUT_OF_BOUNDS;
        } catch (IllegalArgumentException e) {
            return ILLEGAL;
        }
    }

    private void write() {
        same("write()", x.write(), m.write());
    }

    private void read() {
        same("read()", x.read(), m.read());
        same("fault()", x.fault(), m.fault());
    }

    private void changeTape(int bias) {
        switch (random.nextInt(bias == 0 ? 7 : 8)) {
            case 0 -> {
                long w = random.nextLong();
                int n = below(9);
                same("type(" + w + ", " + n + ")", x.type(w, n), m.type(w, n));
            }
            case 1 -> {
                int n = random.nextInt(4) == 0 ? edge() : m.count(1) - random.nextInt(3);
                same("cut(" + n + ")", x.cut(n), m.cut(n));
            }
            case 2, 3 -> seal(below(2));
            case 4, 5, 6 -> {
                poke();
                seal(1);
                read();
            }
            default -> {
                type(OracleTest.tape(random.nextInt(), random.nextInt(3) == 0));
                read();
            }
        }
    }

    private void seal(int what) {
        same("seal(" + what + ")", x.seal(what), m.seal(what));
    }

    /** Mostly behind the head, where a header with an edit or two is still read for a while. */
    private void poke() {
        int length = m.count(1);
        long place = random.nextInt(9) == 0 ? below(length) : Math.max(0, length - 1 - random.nextInt(80));
        int v = random.nextInt(12) == 0 ? edge() : random.nextInt(random.nextBoolean() ? 256 : 24);
        same("poke(" + place + ", " + v + ")", answer(() -> x.poke(place, v)), answer(() -> m.poke(place, v)));
    }

    private void type(byte[] tape) {
        same("type(0, 0)", x.type(0, 0), m.type(0, 0));
        for (int i = 0; i < tape.length; i += 8) {
            int n = Math.min(8, tape.length - i);
            long w = 0;
            for (int k = 0; k < n; k++) {
                w = w << 8 | tape[i + k] & 255;
            }
            same("type(" + w + ", " + n + ")", x.type(w, n), m.type(w, n));
        }
    }
}
