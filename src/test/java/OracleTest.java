import java.util.ArrayList;
import java.util.Arrays;
import java.util.Collections;
import java.util.List;
import java.util.Random;

/** Many tapes, right ones and ones with a wrong place or two, read by the class and by the words of the document. */
public final class OracleTest {
    private static final Due DUE = new Due();
    private static final long[] EDGES = {0, 1, 2, 3, 4, 5, 6, 7, 23, 24, 25, 127, 128, 2399, 2400, 2401, 16383, 16384,
        (1L << 21) - 1, 1L << 21, (1L << 56) - 1, 1L << 56, Long.MAX_VALUE, Long.MIN_VALUE, -1};
    private static final int[] TAGS = {0, 1, 2, 4, 5, 6, 7, 8, 9, 10, 11, 12, 13, 14, 15, 16, 17, 18, 20, 21, 22, 33, 36, 37, 127, 128, 192, 255};

    private final Random random;
    private final List<Token> header = new ArrayList<>();
    private int packed;
    private int files;

    /** Bytes that stand together, or a NUMBER. */
    private static final class Token {
        boolean number;
        long value;
        int behind;
        int[] raw = new int[0];

        Token copy() {
            Token t = new Token();
            t.number = number;
            t.value = value;
            t.behind = behind;
            t.raw = raw.clone();
            return t;
        }
    }

    private OracleTest(int seed) {
        random = new Random(seed);
    }

    public static void main(String[] args) {
        int rounds = args.length > 0 ? Integer.parseInt(args[0]) : 4000;
        int[] seen = new int[9];
        for (int seed = 0; seed < rounds; seed++) {
            OracleTest one = new OracleTest(seed);
            one.make();
            for (int k = 0; k < 16; k++) {
                seen[one.compare(seed, k)]++;
            }
        }
        for (int fault : new int[] {0, 1, 2, 5, 6, 7, 8}) {
            DUE.holds("FAULT " + fault + " was among them: " + seen[fault] + " times", seen[fault] > 0);
        }
        DUE.end();
    }

    /** A tape of any seed: a right one, or one with a wrong place or two. */
    static byte[] tape(int seed, boolean edited) {
        OracleTest one = new OracleTest(seed);
        one.make();
        return Form.tape(one.packedBytes(), one.headerBytes(edited));
    }

    private byte[] headerBytes(boolean edited) {
        List<Token> tokens = new ArrayList<>();
        for (Token t : header) {
            tokens.add(t.copy());
        }
        for (int edits = edited ? 1 + random.nextInt(2) : 0; edits > 0; edits--) {
            edit(tokens);
        }
        byte[] bytes = bytesOf(tokens);
        if (edited && random.nextInt(8) == 0) {
            bytes = Arrays.copyOf(bytes, Math.max(1, bytes.length + random.nextInt(12) - 10));
        }
        return bytes;
    }

    private byte[] packedBytes() {
        byte[] row = new byte[packed];
        random.nextBytes(row);
        return row;
    }

    private int compare(int seed, int k) {
        byte[] bytes = headerBytes(k > 0);
        byte[] tape = Form.tape(packedBytes(), bytes);
        String want = Oracle.read(tape);
        SevenForms x = new SevenForms();
        x.coder(5, 2, 0);
        String before = State.archive(x);
        Form.type(x, tape);
        int answer = x.read();
        String got = answer < 0 ? "FAULT " + x.fault() + " at " + (-10 - answer) : State.archive(x);
        DUE.holds(seed + "/" + k + " " + text(bytes) + ": got " + got + ", due is " + want, got.equals(want));
        if (answer < 0) {
            DUE.holds(seed + "/" + k + ": all is as it was", before.equals(State.archive(x)));
        }
        return x.fault();
    }

    private static String text(byte[] bytes) {
        StringBuilder s = new StringBuilder();
        for (byte b : bytes) {
            s.append(b & 255).append(' ');
        }
        return s.toString();
    }

    private static byte[] bytesOf(List<Token> tokens) {
        Form f = new Form();
        for (Token t : tokens) {
            if (t.number) {
                f.number(t.value, t.behind);
            } else {
                f.add(t.raw);
            }
        }
        return f.bytes();
    }

    private void edit(List<Token> tokens) {
        int i = random.nextInt(tokens.size());
        Token t = tokens.get(i);
        switch (random.nextInt(12)) {
            case 0 -> {
                if (tokens.size() > 1) {
                    tokens.remove(i);
                }
            }
            case 1 -> tokens.add(i, t.copy());
            case 2 -> Collections.swap(tokens, i, random.nextInt(tokens.size()));
            case 3 -> tokens.add(i, raw(TAGS[random.nextInt(TAGS.length)]));
            default -> change(t);
        }
    }

    private void change(Token t) {
        if (t.number) {
            switch (random.nextInt(4)) {
                case 0 -> set(t, t.value + 1);
                case 1 -> set(t, Math.max(0, t.value - 1));
                case 2 -> set(t, EDGES[random.nextInt(EDGES.length)]);
                default -> t.behind = random.nextInt(9);
            }
        } else if (t.raw.length > 0) {
            int at = random.nextInt(t.raw.length);
            t.raw[at] = switch (random.nextInt(4)) {
                case 0 -> t.raw[at] + 1 & 255;
                case 1 -> t.raw[at] - 1 & 255;
                case 2 -> t.raw[at] ^ 1 << random.nextInt(8);
                default -> TAGS[random.nextInt(TAGS.length)];
            };
        }
    }

    private static Token raw(int... bytes) {
        Token t = new Token();
        t.raw = bytes;
        return t;
    }

    private static void set(Token t, long v) {
        t.number = true;
        t.value = v;
        t.behind = 0;
        while (t.behind < 8 && v >>> 7 * (t.behind + 1) != 0) {
            t.behind++;
        }
    }

    private void add(int... bytes) {
        for (int b : bytes) {
            header.add(raw(b));
        }
    }

    private void number(long v) {
        Token t = new Token();
        set(t, v);
        header.add(t);
    }

    private void make() {
        add(1);
        if (random.nextInt(5) > 0) {
            add(4);
            streams();
        }
        add(5);
        entries();
        add(0);
    }

    private void streams() {
        int p = 1 + random.nextInt(random.nextBoolean() ? 2 : 6);
        int[] sizes = new int[p];
        int[] gives = new int[p];
        int[] coders = new int[p];
        boolean[] known = new boolean[p];
        add(6);
        number(0);
        number(p);
        add(9);
        for (int b = 0; b < p; b++) {
            sizes[b] = random.nextInt(40) == 0 ? 600 : 1 + random.nextInt(random.nextInt(6) == 0 ? 200 : 9);
            packed += sizes[b];
            number(sizes[b]);
        }
        add(0, 7, 11);
        number(p);
        add(0);
        for (int b = 0; b < p; b++) {
            coders[b] = 1 + random.nextInt(3);
            number(coders[b]);
            known[b] = coders(coders[b]);
            gives[b] = bonds(coders[b]);
        }
        add(12);
        for (int b = 0; b < p; b++) {
            int whole = 0;
            for (int c = 0; c < coders[b]; c++) {
                int v = known[b] ? sizes[b] : random.nextInt(4) == 0 ? 2400 : 1 + random.nextInt(30);
                number(v);
                whole = c == gives[b] ? v : whole;
            }
            gives[b] = whole;
        }
        add(0, 8);
        parts(gives);
        add(10, 1);
        for (int f = 0; f < files; f++) {
            header.add(raw(0, 0, 0, random.nextInt(256)));
        }
        add(0, 0);
    }

    private boolean coders(int n) {
        boolean known = true;
        for (int c = 0; c < n; c++) {
            switch (random.nextInt(12)) {
                case 0, 1, 2 -> add(1, 0);
                case 3, 4, 5 -> {
                    add(33, 3);
                    number(1);
                    header.add(raw(random.nextInt(3) == 0 ? random.nextInt(256) : random.nextInt(3)));
                }
                case 6, 7 -> add(3, 2, 3, 2);
                case 8, 9, 10 -> add(3, 2, 3, 4);
                default -> {
                    known = false;
                    int id = 1 + random.nextInt(4);
                    int properties = random.nextInt(5);
                    add(properties > 0 ? id + 32 : id);
                    header.add(raw(random.ints(id, 7, 256).toArray()));
                    if (properties > 0) {
                        number(properties);
                        header.add(raw(random.ints(properties, 0, 256).toArray()));
                    }
                }
            }
        }
        return known;
    }

    /** BONDS of a row of coders, in any order: which one gives what the FOLDER gives. */
    private int bonds(int n) {
        List<Integer> row = new ArrayList<>();
        for (int c = 0; c < n; c++) {
            row.add(c);
        }
        Collections.shuffle(row, random);
        List<Integer> order = new ArrayList<>();
        for (int k = 0; k < n - 1; k++) {
            order.add(k);
        }
        Collections.shuffle(order, random);
        for (int k : order) {
            number(row.get(k));
            number(row.get(k + 1));
        }
        return row.get(0);
    }

    private void parts(int[] gives) {
        int[] counts = new int[gives.length];
        boolean many = false;
        for (int b = 0; b < gives.length; b++) {
            counts[b] = Math.min(gives[b], 1 + (random.nextInt(3) == 0 ? random.nextInt(4) : 0));
            many |= counts[b] > 1;
            files += counts[b];
        }
        if (!many) {
            return;
        }
        add(13);
        for (int c : counts) {
            number(c);
        }
        add(9);
        for (int b = 0; b < gives.length; b++) {
            int left = gives[b];
            for (int k = counts[b] - 1; k > 0; k--) {
                int size = random.nextInt(3) == 0 ? left - k : 1 + random.nextInt(left - k);
                number(size);
                left -= size;
            }
        }
    }

    private void entries() {
        int empties = Math.min(24 - files, random.nextInt(4) == 0 ? random.nextInt(20) : random.nextInt(4));
        if (files + empties == 0) {
            empties = 1;
        }
        int n = files + empties;
        number(n);
        if (empties > 0) {
            boolean[] row = some(n, empties);
            bits(14, row);
            if (random.nextBoolean()) {
                bits(15, some(empties, 1 + random.nextInt(empties)));
            }
            if (random.nextBoolean()) {
                bits(16, some(empties, 1 + random.nextInt(empties)));
            }
        }
        List<Token> names = new ArrayList<>();
        int length = 1;
        for (int e = 0; e < n; e++) {
            int[] units = random.ints(random.nextInt(9) == 0 ? 20 : 1 + random.nextInt(4), 1, 128).toArray();
            int[] bytes = new int[2 * units.length + 2];
            for (int u = 0; u < units.length; u++) {
                bytes[2 * u + units[u] % 2] = units[u];
            }
            length += bytes.length;
            names.add(raw(bytes));
        }
        add(17);
        number(length);
        add(0);
        header.addAll(names);
        values(20, n, 8);
        values(21, n, 4);
        add(0);
    }

    private boolean[] some(int n, int ones) {
        List<Boolean> row = new ArrayList<>();
        for (int i = 0; i < n; i++) {
            row.add(i < ones);
        }
        Collections.shuffle(row, random);
        boolean[] out = new boolean[n];
        for (int i = 0; i < n; i++) {
            out[i] = row.get(i);
        }
        return out;
    }

    private static int[] bytesOfBits(boolean[] row) {
        byte[] bytes = new Form().bits(row).bytes();
        int[] out = new int[bytes.length];
        for (int i = 0; i < out.length; i++) {
            out[i] = bytes[i] & 255;
        }
        return out;
    }

    private void bits(int tag, boolean[] row) {
        add(tag);
        number((row.length + 7) / 8);
        header.add(raw(bytesOfBits(row)));
    }

    private void values(int tag, int n, int width) {
        int having = random.nextInt(3) == 0 ? n : random.nextInt(n + 1);
        if (having == 0) {
            return;
        }
        add(tag);
        int rowBytes = having == n ? 0 : (n + 7) / 8;
        number(2 + rowBytes + having * width);
        add(having == n ? 1 : 0);
        if (having < n) {
            header.add(raw(bytesOfBits(some(n, having))));
        }
        add(0);
        for (int i = 0; i < having; i++) {
            header.add(raw(random.ints(width, 0, 256).toArray()));
        }
    }
}
