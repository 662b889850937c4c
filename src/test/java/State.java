import java.util.List;

/** All that can be asked of an object, as a text: two that are alike answer alike. */
final class State {
    private State() {
    }

    static String of(SevenForms x) {
        StringBuilder s = new StringBuilder(archive(x));
        s.append("fault ").append(x.fault()).append("\ntape ").append(x.count(1)).append(':');
        for (int i = 0; i < x.count(1); i++) {
            s.append(' ').append(x.peek(i));
        }
        return s.append('\n').toString();
    }

    /** ENTRIES and CODERS alone. */
    static String archive(SevenForms x) {
        StringBuilder s = new StringBuilder("entries ").append(x.count(0)).append('\n');
        for (int e = 0; e < x.count(0); e++) {
            for (int what = 0; what < 9; what++) {
                s.append(x.of(e, what)).append(' ');
            }
            for (int what = 0; what < 3; what++) {
                s.append(x.number(e, what)).append(' ');
            }
            row(s.append("name"), x, e, 0);
            row(s.append(" bytes"), x, e, 1);
            s.append('\n');
        }
        for (int b = 0; b < 6; b++) {
            s.append("block ").append(b).append(':');
            for (int i = -1; i < 4; i++) {
                s.append(' ').append(x.coderAt(b, i));
            }
            s.append('\n');
        }
        return s.toString();
    }

    private static void row(StringBuilder s, SevenForms x, int entry, int part) {
        int i = 0;
        for (int v = x.at(entry, part, 0); v != SevenForms.NONE; v = x.at(entry, part, i)) {
            s.append(' ').append(v);
            i++;
        }
    }

    /** ENTRIES and CODERS as the tests hold them (null: nobody KNOWS the BLOCK), told likewise. */
    static String archive(List<Item> items, List<List<Integer>> coders) {
        StringBuilder s = new StringBuilder("entries ").append(items.size()).append('\n');
        for (Item it : items) {
            s.append(it.kind + " " + it.size + " " + it.block + " " + it.name.length() + " " + one(it.anti) + " ");
            s.append(one(it.time != null) + " " + one(it.attributes != null) + " " + one(it.wrong) + " " + one(it.lost) + " ");
            s.append((it.time == null ? 0 : it.time) + " " + (it.attributes == null ? 0 : it.attributes) + " ");
            s.append(Form.check(it.bytes) + " name");
            for (char c : it.name.toCharArray()) {
                s.append(" " + (int) c);
            }
            s.append(" bytes");
            for (byte b : it.bytes) {
                s.append(" " + (b & 255));
            }
            s.append('\n');
        }
        for (int b = 0; b < 6; b++) {
            List<Integer> own = coders.get(b);
            s.append("block " + b + ": " + (own == null ? SevenForms.STATE : own.size()));
            for (int c = 0; c < 4; c++) {
                s.append(" " + (own == null ? SevenForms.STATE : c < own.size() ? own.get(c) : SevenForms.NONE));
            }
            s.append('\n');
        }
        return s.toString();
    }

    private static int one(boolean b) {
        return b ? 1 : 0;
    }
}
