import java.util.Arrays;

/**
 * The boundaries of "Terms" and of ======== 2 THE FORM, as they are written: each sentence by a method of its own,
 * with the bytes that are due told one by one; each tape is then read, and written again the same.
 */
public final class EdgeWriteTest {
    private static final Due DUE = new Due();

    public static void main(String[] args) {
        withoutEntries();
        withoutBytes();
        oneByte();
        littleNumbers();
        numbersOfOneAndTwoBytes();
        lengthsOfTwoBytes();
        blocksOneToSix();
        blocksWithoutBytes();
        codersOneToThree();
        deltaDistances();
        deltaOfLengths();
        deltaByWrapping();
        deltaOverFiles();
        swapLeftOver();
        turnLeftOver();
        codersInOrder();
        fileCounts();
        fileSizes();
        rowsOfBits();
        filesAndAntis();
        timesOfSome();
        attributesOfSome();
        orderOfEntries();
        namesOfOneAndTwenty();
        DUE.end();
    }

    /** The tape is this, packed and header, with a head that fits; it is read, and written again the same. */
    private static void written(String what, SevenForms x, String packed, String header) {
        written(what, x, Form.parse(packed), Form.parse(header));
    }

    private static void written(String what, SevenForms x, byte[] packed, byte[] header) {
        byte[] due = Form.tape(packed, header);
        DUE.is(what + ": length", x.write(), due.length);
        byte[] got = Form.typed(x);
        DUE.holds(what + ": " + told(got) + ", due is " + told(due), Arrays.equals(got, due));
        SevenForms y = new SevenForms();
        Form.type(y, due);
        DUE.is(what + ": read", y.read(), x.count(0));
        DUE.is(what + ": again", y.write(), due.length);
        DUE.holds(what + ": the same again", Arrays.equals(Form.typed(y), due));
    }

    private static String told(byte[] row) {
        StringBuilder s = new StringBuilder();
        for (byte b : row) {
            s.append(b & 255).append(' ');
        }
        return s.toString();
    }

    /** A FILE of these BYTES in a BLOCK: its number. */
    private static int file(SevenForms x, int block, int... bytes) {
        int e = x.entry(0);
        x.name(e, (char) ('a' + e));
        for (int b : bytes) {
            x.put(e, b, 1);
        }
        x.block(e, block);
        return e;
    }

    private static String check(int... bytes) {
        byte[] row = new byte[bytes.length];
        for (int i = 0; i < row.length; i++) {
            row[i] = (byte) bytes[i];
        }
        return " " + told(new Form().little(Form.check(row), 4).bytes());
    }

    /** NAMES 'a', 'b', .. as part 17. */
    private static String names(int count) {
        StringBuilder s = new StringBuilder(" 17 ").append(told(new Form().number(1 + 4 * count).bytes())).append("0");
        for (int e = 0; e < count; e++) {
            s.append(' ').append(97 + e).append(" 0 0 0");
        }
        return s.append(' ').toString();
    }

    /** "Without ENTRIES there is no header: OFFSET, SIZE, CHECK are 0." */
    private static void withoutEntries() {
        SevenForms x = new SevenForms();
        x.coder(0, 1, 1);
        DUE.is("no entries", x.write(), 32);
        int[] due = {55, 122, 188, 175, 39, 28, 0, 4};
        for (int i = 0; i < 8; i++) {
            DUE.is("no entries: byte " + i, x.peek(i), due[i]);
        }
        long check = Form.check(new byte[20]);
        for (int i = 8; i < 12; i++) {
            DUE.is("no entries: byte " + i, x.peek(i), check >> 8 * (i - 8) & 255);
        }
        for (int i = 12; i < 32; i++) {
            DUE.is("no entries: byte " + i, x.peek(i), 0);
        }
        DUE.is("no entries: read", x.read(), 0);
    }

    /** "if some FILE has BYTES (just with OFFSET above 0): 4" - here none has. */
    private static void withoutBytes() {
        SevenForms x = new SevenForms();
        x.entry(1);
        x.name(0, 'a');
        x.coder(0, 3, 0);
        written("a directory", x, "", "1 5 1 14 1 128" + names(1) + "0 0");
        SevenForms y = new SevenForms();
        file(y, 5);
        written("an empty file", y, "", "1 5 1 14 1 128 15 1 128" + names(1) + "0 0");
    }

    /** "if some FILE has BYTES (just with OFFSET above 0): 4" - here one has one; "without any it has one COPY". */
    private static void oneByte() {
        SevenForms x = new SevenForms();
        file(x, 0, 200);
        written("a byte", x, "200", "1 4 6 0 1 9 1 0 7 11 1 0 1 1 0 12 1 0 8 10 1" + check(200) + "0 0 5 1" + names(1) + "0 0");
        DUE.is("a byte: OFFSET", x.peek(12), 1);
        SevenForms y = new SevenForms();
        y.coder(0, 2, 0);
        y.coder(0, 1, 9);
        y.clear();
        file(y, 0, 200);
        DUE.is("a byte: CODERS that were cleared are not written", y.write(), x.count(1));
        DUE.holds("a byte: the same tape", Arrays.equals(Form.typed(x), Form.typed(y)));
        DUE.is("a byte: SIZE", x.peek(20), x.count(1) - 33);
    }

    /** "OFFSET, SIZE (8 each)", "LITTLE": 255 and 256 bytes of OFFSET. */
    private static void littleNumbers() {
        for (int offset : new int[] {255, 256, 257}) {
            SevenForms x = new SevenForms();
            file(x, 0, new int[120]);
            file(x, 0, new int[120]);
            file(x, 0, new int[offset - 240]);
            int length = x.write();
            DUE.is("OFFSET " + offset, x.peek(12) + 256 * x.peek(13), offset);
            DUE.is("SIZE with OFFSET " + offset, x.peek(20) + 256 * x.peek(21), length - 32 - offset);
            for (int i : new int[] {14, 15, 16, 17, 18, 19, 22, 23, 24, 25, 26, 27}) {
                DUE.is("a high byte at " + i, x.peek(i), 0);
            }
        }
    }

    /** "NUMBERS .. With as few bytes as can be": 127 is the largest of one byte, 128 the smallest of two. */
    private static void numbersOfOneAndTwoBytes() {
        String[] due = {"127", "128 128", "128 255", "129 0", "137 95", "137 96"};
        int[] sizes = {127, 128, 255, 256, 2399, 2400};
        for (int k = 0; k < sizes.length; k++) {
            SevenForms x = Samples.readFile(sizes[k]);
            byte[] packed = new byte[sizes[k]];
            Form header = new Form().addAll(Form.parse("1 4 6 0 1 9 " + due[k] + " 0 7 11 1 0 1 1 0 12 " + due[k] + " 0 8 10 1"))
                .little(Form.check(packed), 4).addAll(Form.parse("0 0 5 1" + names(1) + "0 0"));
            written("a size of " + sizes[k], x, packed, header.bytes());
        }
    }

    /** The lengths of 17, 20 and 21 at their last one of one byte and their first one of two. */
    private static void lengthsOfTwoBytes() {
        for (int units : new int[] {62, 63}) {
            SevenForms x = new SevenForms();
            Form names = new Form().add(17).number(1 + 2 * units).add(0);
            int left = units;
            for (int e = 0; e < 4; e++) {
                x.entry(1);
                int own = e < 3 ? 15 : left - 1;
                for (int u = 0; u < own; u++) {
                    x.name(e, 'n');
                    names.little('n', 2);
                }
                names.little(0, 2);
                left -= own + 1;
            }
            written(units + " units", x, new byte[0], new Form().addAll(Form.parse("1 5 4 14 1 240")).addAll(names.bytes()).add(0, 0).bytes());
        }
        SevenForms y = new SevenForms();
        Form names = new Form().add(17, 128, 129, 0);
        for (int e = 0; e < 4; e++) {
            y.entry(1);
            for (int u = 0; u < 15; u++) {
                y.name(e, 'n');
                names.little('n', 2);
            }
            names.little(0, 2);
        }
        DUE.is("64 units: 129 bytes", names.bytes().length, 4 + 128);
        written("64 units", y, new byte[0], new Form().addAll(Form.parse("1 5 4 14 1 240")).addAll(names.bytes()).add(0, 0).bytes());
        values("15 TIMES", 1, 15, "20 122");
        values("16 TIMES", 1, 16, "20 128 130");
        values("24 TIMES", 1, 24, "20 128 194");
        values("24 ATTRIBUTES", 3, 24, "21 98");
    }

    private static void values(String what, int set, int count, String due) {
        SevenForms x = Samples.empties(count);
        Form header = new Form().addAll(Form.parse("1 5 " + count + " 14")).number((count + 7) / 8);
        boolean[] all = new boolean[count];
        boolean[] files = new boolean[count];
        for (int e = 0; e < count; e++) {
            x.set(e, set, e);
            all[e] = true;
            files[e] = e % 2 == 0;
        }
        header.bits(all).add(15).number((count + 7) / 8).bits(files).addAll(Form.parse(names(count) + due + " 1 0"));
        for (int e = 0; e < count; e++) {
            header.little(e, set == 1 ? 8 : 4);
        }
        written(what, x, new byte[0], header.add(0, 0).bytes());
    }

    /** "NUMBER of BLOCKS p (1 to 6)". */
    private static void blocksOneToSix() {
        for (int p = 1; p <= 6; p++) {
            SevenForms x = new SevenForms();
            StringBuilder packed = new StringBuilder();
            StringBuilder ones = new StringBuilder();
            StringBuilder folders = new StringBuilder();
            StringBuilder checks = new StringBuilder();
            for (int b = 0; b < p; b++) {
                file(x, b, b + 1);
                packed.append(" ").append(b + 1);
                ones.append(" 1");
                folders.append(" 1 1 0");
                checks.append(check(b + 1));
            }
            written(p + " blocks", x, packed.toString(), "1 4 6 0 " + p + " 9" + ones + " 0 7 11 " + p + " 0" + folders + " 12" + ones
                + " 0 8 10 1" + checks + "0 0 5 " + p + names(p) + "0 0");
        }
    }

    /** A BLOCK without BYTES is not written, wherever it stands, and its CODERS are not, too. */
    private static void blocksWithoutBytes() {
        SevenForms x = new SevenForms();
        file(x, 5, 7);
        file(x, 2);
        x.coder(2, 2, 0);
        x.coder(4, 3, 0);
        String header = "1 4 6 0 1 9 1 0 7 11 1 0 1 1 0 12 1 0 8 10 1" + check(7) + "0 0 5 2 14 1 64 15 1 128" + names(2) + "0 0";
        written("block 5 alone", x, "7", header);
        x.read();
        DUE.is("block 5 is read as the first", x.of(0, 2), 0);
        DUE.is("the empty file is in block 0", x.of(1, 2), 0);
    }

    /** "A BLOCK has up to 3 CODERS"; "BONDS 0 1, 1 2". */
    private static void codersOneToThree() {
        String[] folders = {"1 1 0", "2 1 0 1 0 0 1", "3 1 0 1 0 1 0 0 1 1 2"};
        for (int n = 1; n <= 3; n++) {
            SevenForms x = new SevenForms();
            file(x, 0, 7);
            for (int c = 0; c < n; c++) {
                x.coder(0, 0, 0);
            }
            written(n + " coders", x, "7", "1 4 6 0 1 9 1 0 7 11 1 0 " + folders[n - 1] + " 12" + " 1".repeat(n)
                + " 0 8 10 1" + check(7) + "0 0 5 1" + names(1) + "0 0");
        }
    }

    private static void folder(String what, int[] kind, int[] d, int[] bytes, String packed, String folder) {
        SevenForms x = new SevenForms();
        file(x, 0, bytes);
        StringBuilder sizes = new StringBuilder();
        for (int c = 0; c < kind.length; c++) {
            x.coder(0, kind[c], d[c]);
            sizes.append(" ").append(bytes.length);
        }
        written(what, x, packed, "1 4 6 0 1 9 " + bytes.length + " 0 7 11 1 0 " + folder + " 12" + sizes + " 0 8 10 1" + check(bytes)
            + "0 0 5 1" + names(1) + "0 0");
    }

    private static void coder(String what, int kind, int d, int[] bytes, String packed) {
        String[] ids = {"1 0", "33 3 1 " + (d - 1), "3 2 3 2", "3 2 3 4"};
        folder(what, new int[] {kind}, new int[] {d}, bytes, packed, "1 " + ids[kind]);
    }

    /** "DELTA 3, with one property, d - 1": 0 for 1, 255 for 256. */
    private static void deltaDistances() {
        coder("delta of 1", 1, 1, new int[] {9, 9}, "9 0");
        coder("delta of 2", 1, 2, new int[] {9, 9}, "9 9");
        coder("delta of 255", 1, 255, new int[] {9, 9}, "9 9");
        coder("delta of 256", 1, 256, new int[] {9, 9}, "9 9");
        SevenForms x = new SevenForms();
        x.coder(0, 1, 256);
        for (int e = 0; e < 3; e++) {
            int[] row = new int[e < 2 ? 120 : 18];
            Arrays.fill(row, 3);
            file(x, 0, row);
        }
        x.write();
        DUE.is("delta of 256: byte 255", x.peek(32 + 255), 3);
        DUE.is("delta of 256: byte 256", x.peek(32 + 256), 0);
        DUE.is("delta of 256: byte 257", x.peek(32 + 257), 0);
        DUE.is("delta of 256: read", x.read(), 3);
        DUE.is("delta of 256: the last byte", x.at(2, 1, 17), 3);
        DUE.is("delta of 256: it is right", x.of(2, 7), 0);
        DUE.is("delta of 256: it is told", x.coderAt(0, 0), 1025);
    }

    /** "the one d places ahead (0 where there is none)": d less by one than the bytes, the same, more by one. */
    private static void deltaOfLengths() {
        coder("delta of 2, 3 bytes", 1, 2, new int[] {10, 20, 31}, "10 20 21");
        coder("delta of 3, 3 bytes", 1, 3, new int[] {10, 20, 31}, "10 20 31");
        coder("delta of 4, 3 bytes", 1, 4, new int[] {10, 20, 31}, "10 20 31");
        coder("delta of 1, 1 byte", 1, 1, new int[] {10}, "10");
        coder("delta of 1, 3 bytes", 1, 1, new int[] {10, 20, 31}, "10 10 11");
    }

    /** "by 256". */
    private static void deltaByWrapping() {
        coder("below 0", 1, 1, new int[] {1, 0, 255, 0, 128, 127}, "1 255 255 1 128 255");
        coder("below 0 by two", 1, 2, new int[] {255, 1, 0, 0, 255}, "255 1 1 255 255");
    }

    /** "THE BYTES of a BLOCK are those of its FILES, one behind the other." */
    private static void deltaOverFiles() {
        SevenForms x = new SevenForms();
        x.coder(0, 1, 1);
        file(x, 0, 5, 6);
        file(x, 1, 50);
        file(x, 0, 8);
        String names = " 17 13 0 97 0 0 0 99 0 0 0 98 0 0 0 ";
        written("delta over files", x, "5 1 2 50", "1 4 6 0 2 9 3 1 0 7 11 2 0 1 33 3 1 0 1 1 0 12 3 1 0 8 13 2 1 9 2 10 1"
            + check(5, 6) + check(8) + check(50) + "0 0 5 3" + names + "0 0");
    }

    /** "SWAP: each whole pair of bytes turned round .. what is left over the same". */
    private static void swapLeftOver() {
        coder("swap of 1", 2, 0, new int[] {1}, "1");
        coder("swap of 2", 2, 0, new int[] {1, 2}, "2 1");
        coder("swap of 3", 2, 0, new int[] {1, 2, 3}, "2 1 3");
        coder("swap of 4", 2, 0, new int[] {1, 2, 3, 4}, "2 1 4 3");
    }

    /** "TURN: each whole four; what is left over the same". */
    private static void turnLeftOver() {
        coder("turn of 1", 3, 0, new int[] {1}, "1");
        coder("turn of 3", 3, 0, new int[] {1, 2, 3}, "1 2 3");
        coder("turn of 4", 3, 0, new int[] {1, 2, 3, 4}, "4 3 2 1");
        coder("turn of 5", 3, 0, new int[] {1, 2, 3, 4, 5}, "4 3 2 1 5");
        coder("turn of 7", 3, 0, new int[] {1, 2, 3, 4, 5, 6, 7}, "4 3 2 1 5 6 7");
        coder("turn of 8", 3, 0, new int[] {1, 2, 3, 4, 5, 6, 7, 8}, "4 3 2 1 8 7 6 5");
    }

    /** "A BLOCK's bytes are packed by its first CODER, that by the next one, and so on". */
    private static void codersInOrder() {
        folder("delta, swap", new int[] {1, 2}, new int[] {1, 0}, new int[] {1, 3, 7}, "2 1 4", "2 33 3 1 0 3 2 3 2 0 1");
        folder("swap, delta", new int[] {2, 1}, new int[] {0, 1}, new int[] {1, 3, 7}, "3 254 6", "2 3 2 3 2 33 3 1 0 0 1");
        folder("swap, turn, delta", new int[] {2, 3, 1}, new int[] {0, 0, 2}, new int[] {1, 2, 3, 4, 9},
            "3 4 254 254 8", "3 3 2 3 2 3 2 3 4 33 3 1 1 0 1 1 2");
        folder("delta twice", new int[] {1, 1}, new int[] {1, 1}, new int[] {1, 3, 7}, "1 1 2", "2 33 3 1 0 33 3 1 0 0 1");
    }

    /** "if a BLOCK has other than one FILE: 13, p NUMBERS: how many (1 or more, 24 together at most)". */
    private static void fileCounts() {
        SevenForms x = new SevenForms();
        file(x, 0, 1);
        file(x, 1, 2);
        written("one file in each", x, "1 2", "1 4 6 0 2 9 1 1 0 7 11 2 0 1 1 0 1 1 0 12 1 1 0 8 10 1" + check(1) + check(2)
            + "0 0 5 2" + names(2) + "0 0");
        file(x, 1, 3);
        written("one and two", x, "1 2 3", "1 4 6 0 2 9 1 2 0 7 11 2 0 1 1 0 1 1 0 12 1 2 0 8 13 1 2 9 1 10 1" + check(1) + check(2)
            + check(3) + "0 0 5 3" + names(3) + "0 0");
        SevenForms y = new SevenForms();
        StringBuilder packed = new StringBuilder();
        StringBuilder checks = new StringBuilder();
        for (int e = 0; e < 24; e++) {
            file(y, 3, e);
            packed.append(" ").append(e);
            checks.append(check(e));
        }
        written("24 files in one", y, packed.toString(), "1 4 6 0 1 9 24 0 7 11 1 0 1 1 0 12 24 0 8 13 24 9" + " 1".repeat(23) + " 10 1"
            + checks + "0 0 5 24" + names(24) + "0 0");
        SevenForms z = new SevenForms();
        file(z, 0, 1);
        file(z, 0);
        written("an empty file is none of these", z, "1", "1 4 6 0 1 9 1 0 7 11 1 0 1 1 0 12 1 0 8 10 1" + check(1)
            + "0 0 5 2 14 1 64 15 1 128" + names(2) + "0 0");
    }

    /** "if one has more than one: 9, for each BLOCK the sizes of its FILES but the last one". */
    private static void fileSizes() {
        SevenForms x = new SevenForms();
        file(x, 0, 1, 1);
        file(x, 0, 2, 2, 2);
        file(x, 0, 3);
        file(x, 1, 4, 4, 4, 4);
        file(x, 2, 5);
        file(x, 2, 6, 6);
        written("sizes", x, "1 1 2 2 2 3 4 4 4 4 5 6 6", "1 4 6 0 3 9 6 4 3 0 7 11 3 0 1 1 0 1 1 0 1 1 0 12 6 4 3 0 8 13 3 1 2 9 2 3 1 10 1"
            + check(1, 1) + check(2, 2, 2) + check(3) + check(4, 4, 4, 4) + check(5) + check(6, 6) + "0 0 5 6" + names(6) + "0 0");
    }

    /** "ROWS OF BITS go from the highest bit of each byte on; bits left over are 0." */
    private static void rowsOfBits() {
        String[] due = {"1 128", "1 254", "1 255", "2 255 128", "2 255 255", "3 255 255 128", "3 255 255 254", "3 255 255 255"};
        int[] counts = {1, 7, 8, 9, 16, 17, 23, 24};
        for (int k = 0; k < counts.length; k++) {
            SevenForms x = new SevenForms();
            for (int e = 0; e < counts[k]; e++) {
                x.entry(1);
                x.name(e, (char) (97 + e));
            }
            written(counts[k] + " bits", x, "", "1 5 " + counts[k] + " 14 " + due[k] + names(counts[k]) + "0 0");
        }
    }

    /** "14 if some have no BYTES .. 15 if some of these are FILES, 16 if some are ANTI: likewise, a bit for each of them." */
    private static void filesAndAntis() {
        String header = "1 4 6 0 1 9 1 0 7 11 1 0 1 1 0 12 1 0 8 10 1" + check(9) + "0 0 5 9 14 2 127 128";
        SevenForms x = new SevenForms();
        file(x, 0, 9);
        for (int e = 1; e < 9; e++) {
            x.entry(1);
            x.name(e, (char) (97 + e));
        }
        written("8 directories", x, "9", header + names(9) + "0 0");
        x.set(8, 0, 1);
        written("the last is anti", x, "9", header + " 16 1 1" + names(9) + "0 0");
        x.set(1, 0, 1);
        written("the first, too", x, "9", header + " 16 1 129" + names(9) + "0 0");
        x.set(1, 0, 0);
        x.set(8, 0, 0);
        written("none again", x, "9", header + names(9) + "0 0");
        SevenForms y = new SevenForms();
        for (int e = 0; e < 9; e++) {
            y.entry(e == 8 ? 0 : 1);
            y.name(e, (char) (97 + e));
            y.set(e, 0, 1);
        }
        written("all are anti, the last is a file", y, "", "1 5 9 14 2 255 128 15 2 0 128 16 2 255 128" + names(9) + "0 0");
    }

    /** "20 if some have a TIME: NUMBER of bytes; 1, if all have one, else 0 and a ROW OF BITS; 0; the TIMES (8)." */
    private static void timesOfSome() {
        SevenForms x = Samples.empties(2);
        String head = "1 5 2 14 1 192 15 1 128" + names(2);
        written("no times", x, "", head + "0 0");
        x.set(1, 1, -2);
        written("one time", x, "", head + "20 11 0 64 0 254 255 255 255 255 255 255 255 0 0");
        x.set(0, 1, Long.MIN_VALUE);
        written("all times", x, "", head + "20 18 1 0 0 0 0 0 0 0 0 128 254 255 255 255 255 255 255 255 0 0");
        x.set(1, 2, 0);
        x.set(0, 1, 0);
        written("a time 0", x, "", head + "20 11 0 128 0 0 0 0 0 0 0 0 0 0 0");
        x.set(0, 2, 0);
        written("no times again", x, "", head + "0 0");
        SevenForms y = Samples.empties(1);
        y.set(0, 1, 0x0807060504030201L);
        written("the only one", y, "", "1 5 1 14 1 128 15 1 128" + names(1) + "20 10 1 0 1 2 3 4 5 6 7 8 0 0");
    }

    /** "21 if some have ATTRIBUTES: likewise (4)." */
    private static void attributesOfSome() {
        SevenForms x = Samples.empties(2);
        String head = "1 5 2 14 1 192 15 1 128" + names(2);
        x.set(0, 3, Integer.MIN_VALUE);
        written("one has attributes", x, "", head + "21 7 0 128 0 0 0 0 128 0 0");
        x.set(1, 3, 0);
        written("all have attributes", x, "", head + "21 10 1 0 0 0 0 128 0 0 0 0 0 0");
        x.set(1, 1, 1);
        written("and one a time", x, "", head + "20 11 0 64 0 1 0 0 0 0 0 0 0 21 10 1 0 0 0 0 128 0 0 0 0 0 0");
        x.set(0, 4, 0);
        x.set(1, 4, 0);
        written("the time alone", x, "", head + "20 11 0 64 0 1 0 0 0 0 0 0 0 0 0");
    }

    /** "ENTRIES with BYTES first, by BLOCKS, then as they were told; others behind, as they were told." */
    private static void orderOfEntries() {
        SevenForms x = new SevenForms();
        x.entry(1);
        x.name(0, 'a');
        file(x, 5, 5);
        file(x, 0);
        file(x, 1, 1);
        file(x, 5, 6);
        x.entry(1);
        x.name(5, 'f');
        file(x, 1, 2);
        x.set(0, 3, 1);
        written("order", x, "1 2 5 6", "1 4 6 0 2 9 2 2 0 7 11 2 0 1 1 0 1 1 0 12 2 2 0 8 13 2 2 9 1 1 10 1" + check(1) + check(2) + check(5)
            + check(6) + "0 0 5 7 14 1 14 15 1 64 17 29 0 100 0 0 0 103 0 0 0 98 0 0 0 101 0 0 0 97 0 0 0 99 0 0 0 102 0 0 0"
            + " 21 7 0 8 0 1 0 0 0 0 0");
    }

    /** "NAMES: units (LITTLE, 2 bytes) and a unit 0 each", of 1 and of 20 units. */
    private static void namesOfOneAndTwenty() {
        SevenForms x = new SevenForms();
        x.entry(1);
        x.entry(1);
        x.name(0, (char) 0x0100);
        StringBuilder due = new StringBuilder("1 5 2 14 1 192 17 47 0 0 1 0 0");
        for (int u = 1; u <= 20; u++) {
            x.name(1, (char) (65536 - u));
            due.append(" ").append(256 - u).append(" 255");
        }
        written("names of 1 and 20 units", x, "", due + " 0 0 0 0");
    }
}
