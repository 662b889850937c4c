import java.io.ByteArrayOutputStream;
import java.util.zip.CRC32;

/** Bytes of the document's form, made apart from the class that is tested. */
final class Form {
    static final int HEAD = 32;
    private final ByteArrayOutputStream out = new ByteArrayOutputStream();

    Form add(int... values) {
        for (int v : values) {
            out.write(v);
        }
        return this;
    }

    Form addAll(byte[] row) {
        out.write(row, 0, row.length);
        return this;
    }

    Form little(long v, int n) {
        for (int k = 0; k < n; k++) {
            out.write((int) (v >> (8 * k)));
        }
        return this;
    }

    /** NUMBERS below 2^21 are all that the form can hold. */
    Form number(long v) {
        if (v < 0x80) {
            return add((int) v);
        }
        if (v < 0x4000) {
            return add(0x80 + (int) (v / 256), (int) (v % 256));
        }
        return add(0xC0 + (int) (v / 65536), (int) (v % 256), (int) (v / 256 % 256));
    }

    /** A NUMBER with so many bytes behind its first one, be they too many or not: what does not fit is lost. */
    Form number(long v, int behind) {
        int ones = 0xFF00 >> behind & 255;
        int left = behind < 7 ? (int) (v >>> 8 * behind) & (127 >> behind) : 0;
        return add(ones | left).little(v, behind);
    }

    Form bits(boolean[] row) {
        for (int i = 0; i < row.length; i += 8) {
            int v = 0;
            for (int j = 0; j < 8; j++) {
                if (i + j < row.length && row[i + j]) {
                    v += 128 >> j;
                }
            }
            out.write(v);
        }
        return this;
    }

    byte[] bytes() {
        return out.toByteArray();
    }

    static long check(byte[] row) {
        CRC32 crc = new CRC32();
        crc.update(row);
        return crc.getValue();
    }

    /** A whole tape of packed bytes and a header. */
    static byte[] tape(byte[] packed, byte[] header) {
        byte[] told = new Form().little(packed.length, 8).little(header.length, 8)
            .little(header.length == 0 ? 0 : check(header), 4).bytes();
        return new Form().add(55, 122, 188, 175, 39, 28, 0, 4).little(check(told), 4)
            .addAll(told).addAll(packed).addAll(header).bytes();
    }

    /** "1 4 6 .." as bytes; marks are passed over. */
    static byte[] parse(String text) {
        Form form = new Form();
        for (String word : text.replace("!", " ").trim().split("\\s+")) {
            if (!word.isEmpty()) {
                form.add(Integer.parseInt(word));
            }
        }
        return form.bytes();
    }

    /** How many bytes stand ahead of the mark '!'. */
    static int mark(String text) {
        return parse(text.substring(0, text.indexOf('!'))).length;
    }

    static void type(SevenForms x, byte[] tape) {
        x.type(0, 0);
        int i = 0;
        while (i < tape.length) {
            int n = Math.min(8, tape.length - i);
            long w = 0;
            for (int k = 0; k < n; k++) {
                w = w << 8 | tape[i + k] & 255;
            }
            x.type(w, n);
            i += n;
        }
    }

    static byte[] typed(SevenForms x) {
        byte[] row = new byte[x.count(1)];
        for (int i = 0; i < row.length; i++) {
            row[i] = (byte) x.peek(i);
        }
        return row;
    }
}
