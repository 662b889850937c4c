import java.nio.ByteBuffer;
import java.nio.ByteOrder;
import java.util.ArrayList;
import java.util.Arrays;
import java.util.List;

/** Every call by the words of its promise, in the plainest way: TO READ by Oracle, TO WRITE by Scribe. */
final class Model {
    private static final int NONE = -1, BAD = -2, STATE = -3, FULL = -4;

    private List<Item> items = new ArrayList<>();
    private List<List<Integer>> coders = noCoders();
    private byte[] tape = new byte[0];
    private int fault;

    private static List<List<Integer>> noCoders() {
        List<List<Integer>> all = new ArrayList<>();
        for (int b = 0; b < 6; b++) {
            all.add(new ArrayList<>());
        }
        return all;
    }

    /** As State.of tells it. */
    String state() {
        StringBuilder s = new StringBuilder(State.archive(items, coders));
        s.append("fault ").append(fault).append("\ntape ").append(tape.length).append(':');
        for (byte b : tape) {
            s.append(' ').append(b & 255);
        }
        return s.append('\n').toString();
    }

    private boolean isEntry(int entry) {
        return 0 <= entry && entry < items.size();
    }

    private static boolean isBlock(int block) {
        return 0 <= block && block <= 5;
    }

    int entry(int kind) {
        if (kind != 0 && kind != 1) {
            return BAD;
        }
        if (items.size() == 24) {
            return FULL;
        }
        Item it = new Item();
        it.kind = kind;
        items.add(it);
        return items.indexOf(it);
    }

    int name(int entry, char c) {
        if (!isEntry(entry) || c == 0) {
            return BAD;
        }
        if (items.get(entry).name.length() == 20) {
            return FULL;
        }
        items.get(entry).name += c;
        return items.get(entry).name.length();
    }

    /** The lowest n bytes of w behind a row, the highest of them first. */
    private static byte[] behind(byte[] row, long w, int n) {
        byte[] eight = ByteBuffer.allocate(8).putLong(w).array();
        byte[] out = Arrays.copyOf(row, row.length + n);
        System.arraycopy(eight, 8 - n, out, row.length, n);
        return out;
    }

    int put(int entry, long w, int n) {
        if (!isEntry(entry) || items.get(entry).kind == 1 || n < 1 || n > 8) {
            return BAD;
        }
        Item it = items.get(entry);
        if (coders.get(it.block) == null || it.anti) {
            return STATE;
        }
        if (it.size + n > 120) {
            return FULL;
        }
        it.give(behind(it.bytes, w, n));
        return it.size;
    }

    int block(int entry, int block) {
        if (!isEntry(entry) || items.get(entry).kind == 1 || !isBlock(block)) {
            return BAD;
        }
        int stood = items.get(entry).block;
        if (coders.get(stood) == null || coders.get(block) == null) {
            return STATE;
        }
        items.get(entry).block = block;
        return stood;
    }

    int coder(int block, int kind, int d) {
        if (!isBlock(block) || kind < 0 || kind > 3 || kind == 1 && (d < 1 || d > 256)) {
            return BAD;
        }
        if (coders.get(block) == null) {
            return STATE;
        }
        if (coders.get(block).size() == 3) {
            return FULL;
        }
        coders.get(block).add(kind == 1 ? 1 + 4 * d : kind);
        return coders.get(block).size();
    }

    int set(int entry, int what, long v) {
        if (!isEntry(entry) || what < 0 || what > 4 || what == 0 && v != 0 && v != 1) {
            return BAD;
        }
        Item it = items.get(entry);
        if (what == 0 && v == 1 && it.size > 0) {
            return STATE;
        }
        switch (what) {
            case 0 -> it.anti = v == 1;
            case 1 -> it.time = v;
            case 2 -> it.time = null;
            case 3 -> it.attributes = (int) v;
            default -> it.attributes = null;
        }
        return 1;
    }

    int write() {
        int[] sums = new int[6];
        for (Item it : items) {
            if (it.name.isEmpty() || it.size > 0 && coders.get(it.block) == null) {
                return STATE;
            }
            sums[it.block] += it.size;
        }
        if (Arrays.stream(sums).max().getAsInt() > 2400) {
            return FULL;
        }
        byte[] written = Scribe.write(items, coders);
        if (written.length > 5000) {
            return FULL;
        }
        tape = written;
        return tape.length;
    }

    int read() {
        try {
            Oracle o = Oracle.open(tape);
            items = o.items();
            coders = o.coders();
            fault = 0;
            return items.size();
        } catch (Oracle.Fault f) {
            fault = f.fault;
            return -10 - f.place;
        }
    }

    int fault() {
        return fault;
    }

    int of(int entry, int what) {
        if (!isEntry(entry)) {
            return BAD;
        }
        Item it = items.get(entry);
        return switch (what) {
            case 0 -> it.kind;
            case 1 -> it.size;
            case 2 -> it.block;
            case 3 -> it.name.length();
            case 4 -> it.anti ? 1 : 0;
            case 5 -> it.time != null ? 1 : 0;
            case 6 -> it.attributes != null ? 1 : 0;
            case 7 -> it.wrong ? 1 : 0;
            case 8 -> it.lost ? 1 : 0;
            default -> BAD;
        };
    }

    long number(int entry, int what) {
        if (!isEntry(entry)) {
            return 0;
        }
        Item it = items.get(entry);
        return switch (what) {
            case 0 -> it.time == null ? 0 : it.time;
            case 1 -> it.attributes == null ? 0 : it.attributes;
            case 2 -> Form.check(it.bytes);
            default -> 0;
        };
    }

    int at(int entry, int part, int i) {
        if (!isEntry(entry) || part != 0 && part != 1) {
            return BAD;
        }
        Item it = items.get(entry);
        int length = part == 0 ? it.name.length() : it.bytes.length;
        if (i < 0 || i >= length) {
            return NONE;
        }
        return part == 0 ? it.name.charAt(i) : it.bytes[i] & 255;
    }

    int coderAt(int block, int i) {
        if (!isBlock(block)) {
            return BAD;
        }
        List<Integer> own = coders.get(block);
        if (own == null) {
            return STATE;
        }
        if (i == NONE) {
            return own.size();
        }
        return i >= 0 && i < own.size() ? own.get(i) : NONE;
    }

    int peek(long i) {
        if (i < 0 || i >= tape.length) {
            throw new ArrayIndexOutOfBoundsException();
        }
        return tape[(int) i] & 255;
    }

    int poke(long i, int v) {
        int was = peek(i);
        if (v < 0 || v > 255) {
            throw new IllegalArgumentException();
        }
        tape[(int) i] = (byte) v;
        return was;
    }

    int type(long w, int n) {
        if (n < 0 || n > 8) {
            return BAD;
        }
        if (tape.length + n > 5000) {
            return FULL;
        }
        tape = n == 0 ? new byte[0] : behind(tape, w, n);
        return tape.length;
    }

    int cut(int n) {
        if (n < 0 || n > tape.length) {
            return BAD;
        }
        tape = Arrays.copyOf(tape, n);
        return n;
    }

    int seal(int what) {
        if (what != 0 && what != 1) {
            return BAD;
        }
        if (tape.length < 32) {
            return STATE;
        }
        ByteBuffer head = ByteBuffer.wrap(tape).order(ByteOrder.LITTLE_ENDIAN);
        if (what == 1) {
            long offset = head.getLong(12);
            long size = head.getLong(20);
            int most = tape.length - 32;
            if (offset < 0 || offset > most || size != most - offset) {
                return STATE;
            }
            head.putInt(28, (int) Form.check(Arrays.copyOfRange(tape, 32 + (int) offset, tape.length)));
        }
        head.putInt(8, (int) Form.check(Arrays.copyOfRange(tape, 12, 32)));
        return 1;
    }

    int count(int what) {
        return what == 0 ? items.size() : what == 1 ? tape.length : BAD;
    }

    int clear() {
        int were = items.size();
        items = new ArrayList<>();
        coders = noCoders();
        return were;
    }
}
