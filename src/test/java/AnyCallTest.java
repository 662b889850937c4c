import java.util.Random;

/**
 * "Calls answer, the first of these that fits: BAD .., STATE .., FULL; then nothing changes": runs of 512 calls with any
 * numbers, most of them at an edge. No call throws but peek and poke, what is refused changes nothing, and a call that
 * only asks does not, too.
 */
public final class AnyCallTest {
    private static final Due DUE = new Due();
    private static final int[] EDGES = {-2, -1, 0, 1, 2, 3, 4, 5, 6, 7, 8, 9, 20, 23, 24, 31, 32, 120, 255, 256, 257, 4999, 5000,
        Integer.MIN_VALUE, Integer.MAX_VALUE};
    private static final String[] CALLS = {"entry", "name", "put", "block", "coder", "set", "write", "read", "fault", "of", "number",
        "at", "coderAt", "peek", "poke", "type", "cut", "seal", "count", "clear"};
    private static final int ASKING_FROM = 8, ASKING_TO = 13;

    private final Random random;
    private SevenForms x = new SevenForms();

    private AnyCallTest(int seed) {
        random = new Random(seed);
    }

    public static void main(String[] args) {
        int rounds = args.length > 0 ? Integer.parseInt(args[0]) : 60;
        for (int seed = 0; seed < rounds; seed++) {
            new AnyCallTest(seed).run(seed);
        }
        DUE.end();
    }

    private void run(int seed) {
        x = seed % 3 == 0 ? Samples.half() : seed % 3 == 1 ? Samples.file(9) : x;
        String before = State.of(x);
        for (int call = 0; call < 512; call++) {
            int which = random.nextInt(CALLS.length);
            // Rarely: what was built would never grow.
            which = which == 19 && random.nextInt(20) > 0 ? 2 : which;
            String what = seed + "/" + call + " " + CALLS[which];
            long answer = any(which);
            String now = State.of(x);
            boolean asks = which >= ASKING_FROM && which <= ASKING_TO || which == 18;
            boolean refused = answer <= SevenForms.BAD && answer >= SevenForms.FULL;
            if (asks || refused) {
                DUE.holds(what + " answered " + answer + " and changed something", before.equals(now));
            } else if (which == 7 && answer < 0) {
                DUE.is(what + " has a fault", x.fault() > 0 ? 1 : 0, 1);
                DUE.holds(what + " with a fault changed something", archiveOf(before).equals(archiveOf(now)));
            } else {
                DUE.holds(what + " answered " + answer, answer >= 0);
            }
            before = now;
        }
    }

    private static String archiveOf(String state) {
        return state.substring(0, state.indexOf("fault "));
    }

    private int edge() {
        return random.nextInt(3) == 0 ? EDGES[random.nextInt(EDGES.length)] : random.nextInt(5);
    }

    private long any(int which) {
        int a = edge();
        int b = edge();
        int c = edge();
        long w = random.nextBoolean() ? random.nextLong() : edge();
        return switch (which) {
            case 0 -> x.entry(a);
            case 1 -> x.name(a, (char) b);
            case 2 -> x.put(a, w, b);
            case 3 -> x.block(a, b);
            case 4 -> x.coder(a, b, c);
            case 5 -> x.set(a, b, w);
            case 6 -> x.write();
            case 7 -> x.read();
            case 8 -> x.fault();
            case 9 -> x.of(a, b);
            case 10 -> Math.max(0, x.number(a, b));
            case 11 -> x.at(a, b, c);
            case 12 -> x.coderAt(a, b);
            case 13 -> Due.peekThrows(x, b == 0 ? w : a);
            case 14 -> poked(random.nextInt(1 + x.count(1)), random.nextInt(256));
            case 15 -> random.nextInt(8) == 0 ? x.type(w, b) : x.type(w, 9);
            case 16 -> random.nextInt(8) == 0 ? x.cut(a) : x.cut(x.count(1) + 1);
            case 17 -> x.seal(a);
            case 18 -> x.count(a);
            default -> x.clear();
        };
    }

    /** A poke that is refused answers BAD here; most pokes are sealed, so that a read comes to the header. */
    private long poked(long i, int v) {
        if (Due.pokeThrows(x, i, v) != 0) {
            return SevenForms.BAD;
        }
        if (random.nextInt(3) > 0) {
            x.seal(1);
        }
        return 0;
    }
}
