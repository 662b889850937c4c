import java.util.ArrayList;
import java.util.Comparator;
import java.util.List;

/** TO WRITE by the words of the document, apart from the class. A coder is told by its kind and 4 d of DELTA. */
final class Scribe {
    private Scribe() {
    }

    static List<Item> ordered(List<Item> items) {
        List<Item> row = new ArrayList<>(items);
        row.sort(Comparator.comparingInt(it -> it.bytes.length == 0 ? 6 : it.block));
        return row;
    }

    static List<Integer> usedBlocks(List<Item> row) {
        List<Integer> used = new ArrayList<>();
        for (Item it : row) {
            if (it.bytes.length > 0 && !used.contains(it.block)) {
                used.add(it.block);
            }
        }
        return used;
    }

    private static byte[] pack(byte[] bytes, List<Integer> coders) {
        byte[] row = bytes;
        for (int coder : coders) {
            byte[] next = row.clone();
            int group = coder == 2 ? 2 : coder == 3 ? 4 : 1;
            int d = coder / 4;
            for (int i = 0; i < row.length; i++) {
                if (d > 0) {
                    next[i] = (byte) (row[i] - (i < d ? 0 : row[i - d]));
                } else if (i / group < row.length / group) {
                    next[i] = row[i / group * group + group - 1 - i % group];
                }
            }
            row = next;
        }
        return row;
    }

    static byte[] write(List<Item> items, List<List<Integer>> coders) {
        if (items.isEmpty()) {
            return Form.tape(new byte[0], new byte[0]);
        }
        List<Item> row = ordered(items);
        List<Integer> used = usedBlocks(row);
        Form packed = new Form();
        Form sizes = new Form();
        Form folders = new Form();
        Form given = new Form();
        Form counts = new Form();
        Form parts = new Form();
        Form checks = new Form();
        boolean many = false;
        for (int b : used) {
            Form whole = new Form();
            int files = 0;
            int last = 0;
            for (Item it : row) {
                if (it.bytes.length > 0 && it.block == b) {
                    if (files > 0) {
                        parts.number(last);
                    }
                    last = it.bytes.length;
                    files++;
                    whole.addAll(it.bytes);
                    checks.little(Form.check(it.bytes), 4);
                }
            }
            counts.number(files);
            many |= files > 1;
            List<Integer> own = coders.get(b).isEmpty() ? List.of(0) : coders.get(b);
            packed.addAll(pack(whole.bytes(), own));
            sizes.number(whole.bytes().length);
            folders.addAll(folder(own));
            for (int c = 0; c < own.size(); c++) {
                given.number(whole.bytes().length);
            }
        }
        Form h = new Form().add(1);
        if (!used.isEmpty()) {
            h.add(4, 6, 0, used.size(), 9).addAll(sizes.bytes()).add(0, 7, 11, used.size(), 0).addAll(folders.bytes());
            h.add(12).addAll(given.bytes()).add(0, 8);
            if (many) {
                h.add(13).addAll(counts.bytes()).add(9).addAll(parts.bytes());
            }
            h.add(10, 1).addAll(checks.bytes()).add(0, 0);
        }
        h.add(5).addAll(entries(row)).add(0);
        return Form.tape(packed.bytes(), h.bytes());
    }

    private static byte[] folder(List<Integer> coders) {
        Form f = new Form().add(coders.size());
        for (int c : coders) {
            switch (c) {
                case 0 -> f.add(1, 0);
                case 2 -> f.add(3, 2, 3, 2);
                case 3 -> f.add(3, 2, 3, 4);
                default -> f.add(33, 3, 1, c / 4 - 1);
            }
        }
        for (int c = 1; c < coders.size(); c++) {
            f.add(c - 1, c);
        }
        return f.bytes();
    }

    private static byte[] entries(List<Item> row) {
        int n = row.size();
        Form f = new Form().add(n);
        List<Item> empty = new ArrayList<>();
        boolean[] without = new boolean[n];
        boolean[] timed = new boolean[n];
        boolean[] attributed = new boolean[n];
        Form names = new Form().add(0);
        Form times = new Form();
        Form attributes = new Form();
        for (int i = 0; i < n; i++) {
            Item it = row.get(i);
            without[i] = it.bytes.length == 0;
            if (without[i]) {
                empty.add(it);
            }
            for (char c : it.name.toCharArray()) {
                names.little(c, 2);
            }
            names.little(0, 2);
            timed[i] = it.time != null;
            attributed[i] = it.attributes != null;
            if (timed[i]) {
                times.little(it.time, 8);
            }
            if (attributed[i]) {
                attributes.little(it.attributes, 4);
            }
        }
        boolean[] files = new boolean[empty.size()];
        boolean[] anti = new boolean[empty.size()];
        for (int i = 0; i < files.length; i++) {
            files[i] = empty.get(i).kind == 0;
            anti[i] = empty.get(i).anti;
        }
        rowOf(f, 14, without);
        rowOf(f, 15, files);
        rowOf(f, 16, anti);
        f.add(17).number(names.bytes().length).addAll(names.bytes());
        valuesOf(f, 20, timed, times.bytes());
        valuesOf(f, 21, attributed, attributes.bytes());
        return f.add(0).bytes();
    }

    private static int ones(boolean[] row) {
        int ones = 0;
        for (boolean b : row) {
            ones += b ? 1 : 0;
        }
        return ones;
    }

    private static void rowOf(Form f, int tag, boolean[] row) {
        if (ones(row) > 0) {
            f.add(tag, (row.length + 7) / 8).bits(row);
        }
    }

    private static void valuesOf(Form f, int tag, boolean[] row, byte[] values) {
        if (ones(row) == 0) {
            return;
        }
        Form part = new Form();
        if (ones(row) == row.length) {
            part.add(1);
        } else {
            part.add(0).bits(row);
        }
        part.add(0).addAll(values);
        f.add(tag).number(part.bytes().length).addAll(part.bytes());
    }
}
