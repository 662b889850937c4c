import java.math.BigInteger;
import java.util.ArrayList;
import java.util.Arrays;
import java.util.List;

/** TO READ by the words of the document, written apart from the class: a second opinion on any tape. */
final class Oracle {
    /** The first FAULT of a tape. */
    static final class Fault extends RuntimeException {
        private static final long serialVersionUID = 1;
        final int fault;
        final int place;

        Fault(int fault, int place) {
            this.fault = fault;
            this.place = place;
        }
    }

    /** A BLOCK that was read: its coders by their kinds (and 4 d), from the outermost; a kind of -1 is one that nobody knows. */
    private static final class Folder {
        int packed;
        int gives;
        int files = 1;
        List<Integer> coders = new ArrayList<>();
        List<Integer> order = new ArrayList<>();

        boolean known() {
            return !coders.contains(-1);
        }
    }

    private final byte[] t;
    private int at;
    private final List<Folder> folders = new ArrayList<>();
    private final List<Item> streams = new ArrayList<>();
    private final List<Integer> checks = new ArrayList<>();
    private final List<Item> items = new ArrayList<>();

    private Oracle(byte[] tape) {
        t = tape;
    }

    /** "FAULT f at p", or ENTRIES and CODERS as State tells them. */
    static String read(byte[] tape) {
        try {
            Oracle o = open(tape);
            return State.archive(o.items, o.coders());
        } catch (Fault f) {
            return "FAULT " + f.fault + " at " + f.place;
        }
    }

    /** The tape as it was read; throws its Fault. */
    static Oracle open(byte[] tape) {
        Oracle o = new Oracle(tape);
        o.tape();
        return o;
    }

    List<Item> items() {
        return items;
    }

    /** The CODERS of each BLOCK from the outermost; null of one that nobody KNOWS. */
    List<List<Integer>> coders() {
        List<List<Integer>> all = new ArrayList<>();
        for (int b = 0; b < 6; b++) {
            Folder f = b < folders.size() ? folders.get(b) : new Folder();
            List<Integer> own = new ArrayList<>();
            for (int c : f.order) {
                own.add(f.coders.get(c));
            }
            all.add(f.known() ? own : null);
        }
        return all;
    }

    private int little(int from, int n) {
        return unsigned(from, n).intValue();
    }

    private BigInteger unsigned(int from, int n) {
        byte[] turned = new byte[n];
        for (int k = 0; k < n; k++) {
            turned[n - 1 - k] = t[from + k];
        }
        return new BigInteger(1, turned);
    }

    private int check(int from, int to) {
        return (int) Form.check(Arrays.copyOfRange(t, from, to));
    }

    private void tape() {
        if (t.length < 32) {
            throw new Fault(1, t.length);
        }
        byte[] first = {55, 122, (byte) 188, (byte) 175, 39, 28, 0, 4};
        int same = Arrays.mismatch(first, Arrays.copyOf(t, 8));
        if (same >= 0) {
            throw new Fault(2, same);
        }
        if (little(8, 4) != check(12, 32)) {
            throw new Fault(3, 8);
        }
        BigInteger offset = unsigned(12, 8);
        BigInteger size = unsigned(20, 8);
        boolean none = size.signum() == 0;
        if (!offset.add(size).equals(BigInteger.valueOf(t.length - 32)) || none && (offset.signum() != 0 || little(28, 4) != 0)) {
            throw new Fault(5, 12);
        }
        int start = 32 + offset.intValue();
        if (little(28, 4) != check(start, t.length)) {
            throw new Fault(4, 28);
        }
        if (none) {
            return;
        }
        at = start;
        must(1);
        if (start > 32) {
            must(4);
            streams(start - 32);
        }
        must(5);
        entries();
        must(0);
        if (at < t.length) {
            throw new Fault(6, at);
        }
        unpack();
    }

    private int next() {
        if (at >= t.length) {
            throw new Fault(1, t.length);
        }
        return t[at++] & 255;
    }

    private void must(int v) {
        if (next() != v) {
            throw new Fault(2, at - 1);
        }
    }

    /** Whether the next byte is this one, which is then taken. */
    private boolean may(int v) {
        if (next() == v) {
            return true;
        }
        at--;
        return false;
    }

    private BigInteger any() {
        int start = at;
        String first = Integer.toBinaryString(256 + next()).substring(1);
        int k = first.contains("0") ? first.indexOf('0') : 8;
        for (int i = 0; i < k; i++) {
            next();
        }
        BigInteger left = new BigInteger("0" + first.substring(Math.min(8, k)), 2);
        BigInteger v = left.shiftLeft(8 * k).add(k == 0 ? BigInteger.ZERO : unsigned(start + 1, k));
        // k - 1 bytes behind hold 7 k bits.
        if (k > 0 && v.bitLength() <= 7 * k) {
            throw new Fault(2, start);
        }
        if (v.bitLength() > 63) {
            throw new Fault(5, start);
        }
        return v;
    }

    private int number(int least, int most) {
        int start = at;
        BigInteger v = any();
        if (v.compareTo(BigInteger.valueOf(least)) < 0 || v.compareTo(BigInteger.valueOf(most)) > 0) {
            throw new Fault(5, start);
        }
        return v.intValue();
    }

    private void streams(int offset) {
        must(6);
        number(0, 0);
        int p = number(1, 6);
        must(9);
        int together = 0;
        for (int b = 0; b < p; b++) {
            Folder f = new Folder();
            int start = at;
            f.packed = number(1, 2400);
            together += f.packed;
            folders.add(f);
            if (b == p - 1 && together != offset) {
                throw new Fault(5, start);
            }
        }
        must(0);
        must(7);
        must(11);
        number(p, p);
        must(0);
        for (Folder f : folders) {
            folder(f);
        }
        must(12);
        for (Folder f : folders) {
            for (int c = 0; c < f.coders.size(); c++) {
                int given = f.known() ? number(f.packed, f.packed) : number(1, 2400);
                if (c == f.order.get(0)) {
                    f.gives = given;
                }
            }
        }
        must(0);
        must(8);
        files();
        must(10);
        must(1);
        for (int i = 0; i < streams.size(); i++) {
            for (int k = 0; k < 4; k++) {
                next();
            }
            checks.add(little(at - 4, 4));
        }
        must(0);
        must(0);
    }

    private void folder(Folder f) {
        int n = number(1, 3);
        for (int c = 0; c < n; c++) {
            int form = next();
            if ((form & 0xDF) < 1 || (form & 0xDF) > 4) {
                throw new Fault(2, at - 1);
            }
            StringBuilder told = new StringBuilder();
            for (int k = form & 0xDF; k > 0; k--) {
                told.append(next()).append(' ');
            }
            int last = 0;
            if (form >= 32) {
                int properties = number(1, 4);
                told.append(": ").append(properties);
                for (int k = 0; k < properties; k++) {
                    last = next();
                }
            }
            f.coders.add(switch (told.toString()) {
                case "0 " -> 0;
                case "3 : 1" -> 1 + 4 * (last + 1);
                case "2 3 2 " -> 2;
                case "2 3 4 " -> 3;
                default -> -1;
            });
        }
        List<int[]> bonds = new ArrayList<>();
        for (int k = 0; k < n - 1; k++) {
            int start = at;
            bonds.add(new int[] {number(0, n - 1), number(0, n - 1)});
            if (!sound(bonds, n)) {
                throw new Fault(7, start);
            }
        }
        f.order.addAll(row(bonds, n));
    }

    private static boolean sound(List<int[]> bonds, int n) {
        int takes = 0;
        int gives = 0;
        for (int[] b : bonds) {
            if ((takes >> b[0] & 1) == 1 || (gives >> b[1] & 1) == 1) {
                return false;
            }
            takes |= 1 << b[0];
            gives |= 1 << b[1];
        }
        for (int c = 0; c < n; c++) {
            int i = c;
            for (int step = 0; step < n && i >= 0; step++) {
                i = giver(bonds, i);
                if (i == c) {
                    return false;
                }
            }
        }
        return true;
    }

    private static int giver(List<int[]> bonds, int taker) {
        for (int[] b : bonds) {
            if (b[0] == taker) {
                return b[1];
            }
        }
        return -1;
    }

    /** The coders one behind the other, from the one that gives to none. */
    private static List<Integer> row(List<int[]> bonds, int n) {
        List<Integer> firsts = new ArrayList<>();
        for (int c = 0; c < n; c++) {
            firsts.add(c);
        }
        for (int[] b : bonds) {
            firsts.remove((Integer) b[1]);
        }
        List<Integer> row = new ArrayList<>();
        for (int c = firsts.get(0); c >= 0; c = giver(bonds, c)) {
            row.add(c);
        }
        return row;
    }

    private void files() {
        int tag = at;
        boolean counted = may(13);
        if (counted) {
            int together = 0;
            for (Folder f : folders) {
                f.files = number(1, 24 - together);
                together += f.files;
            }
            if (together == folders.size()) {
                throw new Fault(2, tag);
            }
            must(9);
        }
        for (int b = 0; b < folders.size(); b++) {
            Folder f = folders.get(b);
            int left = f.gives;
            for (int k = 1; k <= f.files; k++) {
                Item it = new Item();
                it.block = b;
                it.size = k < f.files ? number(1, left - (f.files - k)) : left;
                it.lost = !f.known();
                left -= it.size;
                streams.add(it);
            }
        }
    }

    private void entries() {
        int n = number(Math.max(1, streams.size()), 24);
        List<Item> empty = new ArrayList<>();
        if (n > streams.size()) {
            must(14);
            int start = at;
            String bits = bits(n, true);
            if (bits.replace("0", "").length() != n - streams.size()) {
                throw new Fault(5, start);
            }
            int next = 0;
            for (char c : bits.toCharArray()) {
                Item it = c == '1' ? new Item() : streams.get(next++);
                items.add(it);
                if (c == '1') {
                    it.kind = 1;
                    empty.add(it);
                }
            }
            String files = someOf(15, empty.size());
            String antis = someOf(16, empty.size());
            for (int i = 0; i < empty.size(); i++) {
                empty.get(i).kind = files.charAt(i) == '1' ? 0 : 1;
                empty.get(i).anti = antis.charAt(i) == '1';
            }
        } else {
            items.addAll(streams);
        }
        must(17);
        names();
        values(20, 8);
        values(21, 4);
        must(0);
    }

    private String bits(int n, boolean told) {
        int bytes = n / 8 + (n % 8 > 0 ? 1 : 0);
        if (told) {
            number(bytes, bytes);
        }
        StringBuilder s = new StringBuilder();
        for (int k = 0; k < bytes; k++) {
            s.append(Integer.toBinaryString(256 + next()).substring(1));
            if (s.length() > n && s.substring(n).contains("1")) {
                throw new Fault(2, at - 1);
            }
        }
        return s.substring(0, n);
    }

    private String someOf(int tag, int n) {
        int start = at;
        if (!may(tag)) {
            return "0".repeat(n);
        }
        String bits = bits(n, true);
        if (!bits.contains("1")) {
            throw new Fault(2, start);
        }
        return bits;
    }

    private void names() {
        int start = at;
        BigInteger length = any();
        int from = at;
        must(0);
        for (Item it : items) {
            int first = at;
            for (int unit = next() + 256 * next(); unit != 0; unit = next() + 256 * next()) {
                it.name += (char) unit;
                if (it.name.length() > 20) {
                    throw new Fault(8, first);
                }
            }
            if (it.name.isEmpty()) {
                throw new Fault(8, first);
            }
        }
        if (!length.equals(BigInteger.valueOf(at - from))) {
            throw new Fault(5, start);
        }
    }

    private void values(int tag, int width) {
        int place = at;
        if (!may(tag)) {
            return;
        }
        int start = at;
        BigInteger length = any();
        int from = at;
        int all = next();
        if (all > 1) {
            throw new Fault(2, from);
        }
        String which = all == 1 ? "1".repeat(items.size()) : bits(items.size(), false);
        if (!which.contains("1")) {
            throw new Fault(2, place);
        }
        if (all == 0 && !which.contains("0")) {
            throw new Fault(2, from);
        }
        must(0);
        for (int i = 0; i < items.size(); i++) {
            if (which.charAt(i) == '1') {
                for (int k = 0; k < width; k++) {
                    next();
                }
                long v = unsigned(at - width, width).longValue();
                if (tag == 20) {
                    items.get(i).time = v;
                } else {
                    items.get(i).attributes = (int) v;
                }
            }
        }
        if (!length.equals(BigInteger.valueOf(at - from))) {
            throw new Fault(5, start);
        }
    }

    private void unpack() {
        int from = 32;
        int file = 0;
        for (Folder f : folders) {
            byte[] row = Arrays.copyOfRange(t, from, from + f.packed);
            from += f.packed;
            if (f.known()) {
                for (int c = f.order.size() - 1; c >= 0; c--) {
                    row = unpacked(row, f.coders.get(f.order.get(c)));
                }
            }
            int start = 0;
            for (int k = 0; k < f.files; k++) {
                Item it = streams.get(file);
                if (f.known()) {
                    it.bytes = Arrays.copyOfRange(row, start, start + it.size);
                    it.wrong = (int) Form.check(it.bytes) != checks.get(file);
                }
                start += it.size;
                file++;
            }
        }
    }

    private static byte[] unpacked(byte[] row, int coder) {
        byte[] out = new byte[row.length];
        int group = coder == 2 ? 2 : coder == 3 ? 4 : 1;
        int d = coder / 4;
        for (int i = 0; i < row.length; i++) {
            int start = i - i % group;
            out[i] = start + group <= row.length ? row[start + group - 1 - i % group] : row[i];
            if (d > 0 && i >= d) {
                out[i] += out[i - d];
            }
        }
        return out;
    }
}
