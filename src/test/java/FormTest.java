import java.util.ArrayList;
import java.util.Arrays;
import java.util.List;
import java.util.Random;

/** What is written, byte by byte, against Scribe, a writer of the tests' own; and what is read from it again. */
public final class FormTest {
    private static final Due DUE = new Due();

    public static void main(String[] args) {
        for (int seed = 0; seed < 3000; seed++) {
            round(seed);
        }
        largest();
        DUE.end();
    }

    private static void round(int seed) {
        Random random = new Random(seed);
        List<List<Integer>> coders = new ArrayList<>();
        SevenForms x = new SevenForms();
        for (int b = 0; b < 6; b++) {
            coders.add(new ArrayList<>());
            for (int c = random.nextInt(4); c > 0; c--) {
                int kind = random.nextInt(4);
                int d = random.nextInt(3) == 0 ? 1 + random.nextInt(256) : 1 + random.nextInt(5);
                coders.get(b).add(kind == 1 ? 1 + 4 * d : kind);
                x.coder(b, kind, d);
            }
        }
        List<Item> items = new ArrayList<>();
        int count = random.nextInt(random.nextBoolean() ? 4 : 25);
        boolean allTimed = random.nextInt(4) == 0;
        int blocks = 1 + random.nextInt(6);
        for (int i = 0; i < count; i++) {
            items.add(item(random, allTimed, blocks));
            tell(x, i, items.get(i));
        }
        byte[] want = Scribe.write(items, coders);
        DUE.is(seed + ": write", x.write(), want.length);
        DUE.holds(seed + ": the tape", Arrays.equals(Form.typed(x), want));
        SevenForms y = new SevenForms();
        Form.type(y, want);
        DUE.is(seed + ": read", y.read(), count);
        compare(seed, y, Scribe.ordered(items), coders);
        DUE.is(seed + ": write again", y.write(), want.length);
        DUE.holds(seed + ": the same again", Arrays.equals(Form.typed(y), want));
    }

    private static Item item(Random random, boolean allTimed, int blocks) {
        Item it = new Item();
        it.kind = random.nextInt(4) == 0 ? 1 : 0;
        for (int u = random.nextInt(6) == 0 ? 20 : 1 + random.nextInt(4); u > 0; u--) {
            it.name += (char) (1 + random.nextInt(65535));
        }
        if (it.kind == 0) {
            it.block = random.nextInt(blocks);
            it.give(new byte[random.nextInt(4) == 0 ? 0 : random.nextInt(4) == 0 ? 1 + random.nextInt(100) : 1 + random.nextInt(9)]);
            random.nextBytes(it.bytes);
        }
        it.anti = it.bytes.length == 0 && random.nextInt(3) == 0;
        it.time = allTimed || random.nextInt(3) == 0 ? random.nextLong() : null;
        it.attributes = random.nextInt(3) == 0 ? random.nextInt() : null;
        return it;
    }

    private static void tell(SevenForms x, int i, Item it) {
        DUE.is("entry", x.entry(it.kind), i);
        for (char c : it.name.toCharArray()) {
            x.name(i, c);
        }
        for (int k = 0; k < it.bytes.length; k++) {
            DUE.is("put", x.put(i, it.bytes[k] & 255, 1), k + 1);
        }
        if (it.kind == 0) {
            DUE.is("block", x.block(i, it.block), 0);
        }
        DUE.is("anti", x.set(i, 0, it.anti ? 1 : 0), 1);
        if (it.time != null) {
            x.set(i, 1, it.time);
        }
        if (it.attributes != null) {
            x.set(i, 3, it.attributes);
        }
    }

    private static void compare(int seed, SevenForms y, List<Item> row, List<List<Integer>> coders) {
        List<Integer> used = Scribe.usedBlocks(row);
        for (int i = 0; i < row.size(); i++) {
            Item it = row.get(i);
            String what = seed + ": entry " + i + " ";
            DUE.is(what + "kind", y.of(i, 0), it.kind);
            DUE.is(what + "size", y.of(i, 1), it.bytes.length);
            DUE.is(what + "block", y.of(i, 2), it.bytes.length == 0 ? 0 : used.indexOf(it.block));
            DUE.is(what + "units", y.of(i, 3), it.name.length());
            DUE.is(what + "anti", y.of(i, 4), it.anti ? 1 : 0);
            DUE.is(what + "timed", y.of(i, 5), it.time == null ? 0 : 1);
            DUE.is(what + "attributed", y.of(i, 6), it.attributes == null ? 0 : 1);
            DUE.is(what + "wrong", y.of(i, 7), 0);
            DUE.is(what + "unknown", y.of(i, 8), 0);
            DUE.is(what + "time", y.number(i, 0), it.time == null ? 0 : it.time);
            DUE.is(what + "attributes", y.number(i, 1), it.attributes == null ? 0 : it.attributes);
            DUE.is(what + "check", y.number(i, 2), Form.check(it.bytes));
            for (int k = 0; k < it.bytes.length; k++) {
                DUE.is(what + "byte " + k, y.at(i, 1, k), it.bytes[k] & 255);
            }
            for (int k = 0; k < it.name.length(); k++) {
                DUE.is(what + "unit " + k, y.at(i, 0, k), it.name.charAt(k));
            }
        }
        for (int b = 0; b < 6; b++) {
            List<Integer> own = b >= used.size() ? List.of() : coders.get(used.get(b));
            List<Integer> due = b < used.size() && own.isEmpty() ? List.of(0) : own;
            DUE.is(seed + ": coders of " + b, y.coderAt(b, -1), due.size());
            for (int c = 0; c < due.size(); c++) {
                DUE.is(seed + ": coder " + c + " of " + b, y.coderAt(b, c), due.get(c));
            }
        }
    }

    /** Whole blocks: 20 FILES of 120 bytes, as far as a tape goes. */
    private static void largest() {
        List<Item> items = new ArrayList<>();
        List<List<Integer>> coders = new ArrayList<>();
        SevenForms x = new SevenForms();
        for (int b = 0; b < 6; b++) {
            coders.add(List.of(1 + 4 * 256, 3, 1 + 4 * 7));
            for (int c : coders.get(b)) {
                x.coder(b, c % 4, c / 4);
            }
        }
        Random random = new Random(7);
        for (int i = 0; i < 24; i++) {
            Item it = new Item();
            it.name = "n" + i;
            it.give(new byte[120]);
            it.block = i < 20 ? 3 : 1;
            random.nextBytes(it.bytes);
            items.add(it);
            tell(x, i, it);
        }
        byte[] want = Scribe.write(items, coders);
        DUE.is("largest: write", x.write(), want.length);
        DUE.holds("largest: the tape", Arrays.equals(Form.typed(x), want));
        DUE.is("largest: read", x.read(), 24);
        compare(-1, x, Scribe.ordered(items), coders);
    }
}
