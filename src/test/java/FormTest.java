import java.util.ArrayList;
import java.util.Arrays;
import java.util.Comparator;
import java.util.List;
import java.util.Random;

/** What is written, byte by byte, against a writer of the test's own; and what is read from it again. */
public final class FormTest {
    private static final Due DUE = new Due();

    /** An ENTRY as the test holds it. */
    private static final class Item {
        int kind;
        int block;
        String name = "";
        byte[] bytes = new byte[0];
        boolean anti;
        Long time;
        Integer attributes;
    }

    public static void main(String[] args) {
        for (int seed = 0; seed < 3000; seed++) {
            round(seed);
        }
        largest();
        DUE.end();
    }

    private static void round(int seed) {
        Random random = new Random(seed);
        List<List<int[]>> coders = new ArrayList<>();
        SevenForms x = new SevenForms();
        for (int b = 0; b < 6; b++) {
            coders.add(new ArrayList<>());
            for (int c = random.nextInt(4); c > 0; c--) {
                int[] coder = {random.nextInt(4), random.nextInt(3) == 0 ? 1 + random.nextInt(256) : 1 + random.nextInt(5)};
                coders.get(b).add(coder);
                x.coder(b, coder[0], coder[1]);
            }
        }
        List<Item> items = new ArrayList<>();
        int count = random.nextInt(random.nextBoolean() ? 4 : 25);
        boolean allTimed = random.nextInt(4) == 0;
        int blocks = 1 + random.nextInt(6);
        for (int i = 0; i < count; i++) {
            items.add(item(random, allTimed, blocks));
            tell(x, i, items.get(i));
        }
        byte[] want = write(items, coders);
        DUE.is(seed + ": write", x.write(), want.length);
        DUE.holds(seed + ": the tape", Arrays.equals(Form.typed(x), want));
        SevenForms y = new SevenForms();
        Form.type(y, want);
        DUE.is(seed + ": read", y.read(), count);
        compare(seed, y, ordered(items), coders);
        DUE.is(seed + ": write again", y.write(), want.length);
        DUE.holds(seed + ": the same again", Arrays.equals(Form.typed(y), want));
    }

    private static Item item(Random random, boolean allTimed, int blocks) {
        Item it = new Item();
        it.kind = random.nextInt(4) == 0 ? 1 : 0;
        for (int u = random.nextInt(6) == 0 ? 20 : 1 + random.nextInt(4); u > 0; u--) {
            it.name += (char) (1 + random.nextInt(65535));
        }
        if (it.kind == 0) {
            it.block = random.nextInt(blocks);
            it.bytes = new byte[random.nextInt(4) == 0 ? 0 : random.nextInt(4) == 0 ? 1 + random.nextInt(100) : 1 + random.nextInt(9)];
            random.nextBytes(it.bytes);
        }
        it.anti = it.bytes.length == 0 && random.nextInt(3) == 0;
        it.time = allTimed || random.nextInt(3) == 0 ? random.nextLong() : null;
        it.attributes = random.nextInt(3) == 0 ? random.nextInt() : null;
        return it;
    }

    private static void tell(SevenForms x, int i, Item it) {
        DUE.is("entry", x.entry(it.kind), i);
        for (char c : it.name.toCharArray()) {
            x.name(i, c);
        }
        for (int k = 0; k < it.bytes.length; k++) {
            DUE.is("put", x.put(i, it.bytes[k] & 255, 1), k + 1);
        }
        if (it.kind == 0) {
            DUE.is("block", x.block(i, it.block), 0);
        }
        DUE.is("anti", x.set(i, 0, it.anti ? 1 : 0), 1);
        if (it.time != null) {
            x.set(i, 1, it.time);
        }
        if (it.attributes != null) {
            x.set(i, 3, it.attributes);
        }
    }

    private static List<Item> ordered(List<Item> items) {
        List<Item> row = new ArrayList<>(items);
        row.sort(Comparator.comparingInt(it -> it.bytes.length == 0 ? 6 : it.block));
        return row;
    }

    private static List<Integer> usedBlocks(List<Item> row) {
        List<Integer> used = new ArrayList<>();
        for (Item it : row) {
            if (it.bytes.length > 0 && !used.contains(it.block)) {
                used.add(it.block);
            }
        }
        return used;
    }

    private static byte[] pack(byte[] bytes, List<int[]> coders) {
        byte[] row = bytes;
        for (int[] coder : coders) {
            byte[] next = row.clone();
            int group = coder[0] == 2 ? 2 : coder[0] == 3 ? 4 : 1;
            for (int i = 0; i < row.length; i++) {
                if (coder[0] == 1) {
                    next[i] = (byte) (row[i] - (i < coder[1] ? 0 : row[i - coder[1]]));
                } else if (i / group < row.length / group) {
                    next[i] = row[i / group * group + group - 1 - i % group];
                }
            }
            row = next;
        }
        return row;
    }

    private static byte[] write(List<Item> items, List<List<int[]>> coders) {
        if (items.isEmpty()) {
            return Form.tape(new byte[0], new byte[0]);
        }
        List<Item> row = ordered(items);
        List<Integer> used = usedBlocks(row);
        Form packed = new Form();
        Form sizes = new Form();
        Form folders = new Form();
        Form given = new Form();
        Form counts = new Form();
        Form parts = new Form();
        Form checks = new Form();
        boolean many = false;
        for (int b : used) {
            Form whole = new Form();
            int files = 0;
            int last = 0;
            for (Item it : row) {
                if (it.bytes.length > 0 && it.block == b) {
                    if (files > 0) {
                        parts.number(last);
                    }
                    last = it.bytes.length;
                    files++;
                    whole.addAll(it.bytes);
                    checks.little(Form.check(it.bytes), 4);
                }
            }
            counts.number(files);
            many |= files > 1;
            List<int[]> own = coders.get(b).isEmpty() ? List.of(new int[] {0, 0}) : coders.get(b);
            packed.addAll(pack(whole.bytes(), own));
            sizes.number(whole.bytes().length);
            folders.addAll(folder(own));
            for (int c = 0; c < own.size(); c++) {
                given.number(whole.bytes().length);
            }
        }
        Form h = new Form().add(1);
        if (!used.isEmpty()) {
            h.add(4, 6, 0, used.size(), 9).addAll(sizes.bytes()).add(0, 7, 11, used.size(), 0).addAll(folders.bytes());
            h.add(12).addAll(given.bytes()).add(0, 8);
            if (many) {
                h.add(13).addAll(counts.bytes()).add(9).addAll(parts.bytes());
            }
            h.add(10, 1).addAll(checks.bytes()).add(0, 0);
        }
        h.add(5).addAll(entries(row)).add(0);
        return Form.tape(packed.bytes(), h.bytes());
    }

    private static byte[] folder(List<int[]> coders) {
        Form f = new Form().add(coders.size());
        for (int[] c : coders) {
            switch (c[0]) {
                case 0 -> f.add(1, 0);
                case 1 -> f.add(33, 3, 1, c[1] - 1);
                case 2 -> f.add(3, 2, 3, 2);
                default -> f.add(3, 2, 3, 4);
            }
        }
        for (int c = 1; c < coders.size(); c++) {
            f.add(c - 1, c);
        }
        return f.bytes();
    }

    private static byte[] entries(List<Item> row) {
        int n = row.size();
        Form f = new Form().add(n);
        List<Item> empty = new ArrayList<>();
        boolean[] without = new boolean[n];
        boolean[] timed = new boolean[n];
        boolean[] attributed = new boolean[n];
        Form names = new Form().add(0);
        Form times = new Form();
        Form attributes = new Form();
        for (int i = 0; i < n; i++) {
            Item it = row.get(i);
            without[i] = it.bytes.length == 0;
            if (without[i]) {
                empty.add(it);
            }
            for (char c : it.name.toCharArray()) {
                names.little(c, 2);
            }
            names.little(0, 2);
            timed[i] = it.time != null;
            attributed[i] = it.attributes != null;
            if (timed[i]) {
                times.little(it.time, 8);
            }
            if (attributed[i]) {
                attributes.little(it.attributes, 4);
            }
        }
        boolean[] files = new boolean[empty.size()];
        boolean[] anti = new boolean[empty.size()];
        for (int i = 0; i < files.length; i++) {
            files[i] = empty.get(i).kind == 0;
            anti[i] = empty.get(i).anti;
        }
        rowOf(f, 14, without);
        rowOf(f, 15, files);
        rowOf(f, 16, anti);
        f.add(17).number(names.bytes().length).addAll(names.bytes());
        valuesOf(f, 20, timed, times.bytes());
        valuesOf(f, 21, attributed, attributes.bytes());
        return f.add(0).bytes();
    }

    private static int ones(boolean[] row) {
        int ones = 0;
        for (boolean b : row) {
            ones += b ? 1 : 0;
        }
        return ones;
    }

    private static void rowOf(Form f, int tag, boolean[] row) {
        if (ones(row) > 0) {
            f.add(tag, (row.length + 7) / 8).bits(row);
        }
    }

    private static void valuesOf(Form f, int tag, boolean[] row, byte[] values) {
        if (ones(row) == 0) {
            return;
        }
        Form part = new Form();
        if (ones(row) == row.length) {
            part.add(1);
        } else {
            part.add(0).bits(row);
        }
        part.add(0).addAll(values);
        f.add(tag).number(part.bytes().length).addAll(part.bytes());
    }

    private static void compare(int seed, SevenForms y, List<Item> row, List<List<int[]>> coders) {
        List<Integer> used = usedBlocks(row);
        for (int i = 0; i < row.size(); i++) {
            Item it = row.get(i);
            String what = seed + ": entry " + i + " ";
            DUE.is(what + "kind", y.of(i, 0), it.kind);
            DUE.is(what + "size", y.of(i, 1), it.bytes.length);
            DUE.is(what + "block", y.of(i, 2), it.bytes.length == 0 ? 0 : used.indexOf(it.block));
            DUE.is(what + "units", y.of(i, 3), it.name.length());
            DUE.is(what + "anti", y.of(i, 4), it.anti ? 1 : 0);
            DUE.is(what + "timed", y.of(i, 5), it.time == null ? 0 : 1);
            DUE.is(what + "attributed", y.of(i, 6), it.attributes == null ? 0 : 1);
            DUE.is(what + "wrong", y.of(i, 7), 0);
            DUE.is(what + "unknown", y.of(i, 8), 0);
            DUE.is(what + "time", y.number(i, 0), it.time == null ? 0 : it.time);
            DUE.is(what + "attributes", y.number(i, 1), it.attributes == null ? 0 : it.attributes);
            DUE.is(what + "check", y.number(i, 2), Form.check(it.bytes));
            for (int k = 0; k < it.bytes.length; k++) {
                DUE.is(what + "byte " + k, y.at(i, 1, k), it.bytes[k] & 255);
            }
            for (int k = 0; k < it.name.length(); k++) {
                DUE.is(what + "unit " + k, y.at(i, 0, k), it.name.charAt(k));
            }
        }
        for (int b = 0; b < 6; b++) {
            List<int[]> own = b >= used.size() ? List.of() : coders.get(used.get(b));
            List<int[]> due = b < used.size() && own.isEmpty() ? List.of(new int[] {0, 0}) : own;
            DUE.is(seed + ": coders of " + b, y.coderAt(b, -1), due.size());
            for (int c = 0; c < due.size(); c++) {
                int[] coder = due.get(c);
                DUE.is(seed + ": coder " + c + " of " + b, y.coderAt(b, c), coder[0] == 1 ? 1 + 4 * coder[1] : coder[0]);
            }
        }
    }

    /** Whole blocks: 20 FILES of 120 bytes, as far as a tape goes. */
    private static void largest() {
        List<Item> items = new ArrayList<>();
        List<List<int[]>> coders = new ArrayList<>();
        SevenForms x = new SevenForms();
        for (int b = 0; b < 6; b++) {
            coders.add(List.of(new int[] {1, 256}, new int[] {3, 0}, new int[] {1, 7}));
            for (int[] c : coders.get(b)) {
                x.coder(b, c[0], c[1]);
            }
        }
        Random random = new Random(7);
        for (int i = 0; i < 24; i++) {
            Item it = new Item();
            it.name = "n" + i;
            it.bytes = new byte[120];
            it.block = i < 20 ? 3 : 1;
            random.nextBytes(it.bytes);
            items.add(it);
            tell(x, i, it);
        }
        byte[] want = write(items, coders);
        DUE.is("largest: write", x.write(), want.length);
        DUE.holds("largest: the tape", Arrays.equals(Form.typed(x), want));
        DUE.is("largest: read", x.read(), 24);
        compare(-1, x, ordered(items), coders);
    }
}
