/** Objects in the states that tests of boundaries begin with. */
final class Samples {
    private Samples() {
    }

    /** A FILE named 'a' of so many BYTES: 1, 2, .. */
    static SevenForms file(int bytes) {
        SevenForms x = new SevenForms();
        addFile(x, bytes);
        return x;
    }

    /** One more FILE, likewise: its number. */
    static int addFile(SevenForms x, int bytes) {
        int e = x.entry(0);
        x.name(e, (char) ('a' + e));
        int done = 0;
        while (done + 8 <= bytes) {
            x.put(e, 0x0101010101010101L * done + 0x0102030405060708L, 8);
            done += 8;
        }
        while (done < bytes) {
            done++;
            x.put(e, done, 1);
        }
        return e;
    }

    /** So many ENTRIES without BYTES, FILES and DIRECTORIES by turns, named. */
    static SevenForms empties(int count) {
        SevenForms x = new SevenForms();
        for (int e = 0; e < count; e++) {
            x.entry(e % 2);
            x.name(e, (char) ('a' + e));
        }
        return x;
    }

    /** The header of one BLOCK with one coder that has one FILE 'a', whose CHECK is told as 0. */
    static byte[] oneBlock(int packed, String coder, int gives) {
        return new Form().addAll(Form.parse("1 4 6 0 1 9")).number(packed).addAll(Form.parse("0 7 11 1 0 1 " + coder + " 12"))
            .number(gives).addAll(Form.parse("0 8 10 1 0 0 0 0 0 0 5 1 17 5 0 97 0 0 0 0 0")).bytes();
    }

    /** A FILE of so many BYTES, all 0, as it is read. */
    static SevenForms readFile(int bytes) {
        SevenForms x = new SevenForms();
        Form.type(x, Form.tape(new byte[bytes], oneBlock(bytes, "1 0", bytes)));
        x.read();
        return x;
    }

    /** A FILE with a SIZE, in a BLOCK 0 that nobody KNOWS. */
    static SevenForms unknown(int size) {
        SevenForms x = new SevenForms();
        Form.type(x, Form.tape(new byte[1], oneBlock(1, "1 99", size)));
        x.read();
        return x;
    }

    /**
     * BLOCK 0 that nobody KNOWS, by three coders, with FILES 0 and 1 of 2 and 5 bytes; BLOCK 1 by COPY with FILE 2 of
     * 3 bytes; ENTRY 3 is an empty FILE (so in BLOCK 0), 4 a DIRECTORY.
     */
    static SevenForms half() {
        SevenForms x = new SevenForms();
        Form.type(x, Form.tape(new byte[] {9, 9, 9, 9, 1, 2, 3}, Form.parse(
            "1 4 6 0 2 9 4 3 0 7 11 2 0 3 1 99 1 0 1 0 0 1 1 2 1 1 0 12 7 7 7 3 0 8 13 2 1 9 2 10 1 1 2 3 4 5 6 7 8 29 128 188 85 0 0"
            + " 5 5 14 1 24 15 1 128 17 21 0 97 0 0 0 98 0 0 0 99 0 0 0 100 0 0 0 101 0 0 0 0 0")));
        x.read();
        return x;
    }

    /** FILES of 2400, 2000, some and one byte in BLOCKS 0 to 3, as they are read from a tape of just 5000 bytes; it is there. */
    static SevenForms fiveThousand() {
        int third = 5000 - 32 - fourBlocks(200).length - 2400 - 2000 - 1;
        SevenForms x = new SevenForms();
        Form.type(x, Form.tape(new byte[2400 + 2000 + third + 1], fourBlocks(third)));
        x.read();
        return x;
    }

    private static byte[] fourBlocks(int third) {
        return new Form().addAll(Form.parse("1 4 6 0 4 9")).number(2400).number(2000).number(third).number(1)
            .addAll(Form.parse("0 7 11 4 0 1 1 0 1 1 0 1 1 0 1 1 0 12")).number(2400).number(2000).number(third).number(1)
            .addAll(Form.parse("0 8 10 1")).little(0, 8).little(0, 8).add(0, 0)
            .addAll(Form.parse("5 4 17 17 0 97 0 0 0 98 0 0 0 99 0 0 0 100 0 0 0 0 0")).bytes();
    }
}
