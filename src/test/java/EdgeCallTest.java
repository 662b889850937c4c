import java.util.Arrays;

/**
 * The boundaries of "Terms", "The public face" and promises 1 to 21: each sentence by a method of its own, which tells
 * it. What is refused changes nothing that can be asked.
 */
public final class EdgeCallTest {
    private static final int NONE = SevenForms.NONE, BAD = SevenForms.BAD, STATE = SevenForms.STATE, FULL = SevenForms.FULL;
    private static final int LOW = Integer.MIN_VALUE, HIGH = Integer.MAX_VALUE;
    private static final Due DUE = new Due();

    public static void main(String[] args) {
        constants();
        newObject();
        entryKinds();
        entryFull();
        nameWhich();
        nameUnits();
        nameFull();
        putWhich();
        putHowMany();
        putOrder();
        putState();
        putFull();
        putBehindRead();
        blockWhich();
        blockAnswers();
        blockState();
        coderWhich();
        coderDistance();
        coderState();
        coderFull();
        setWhich();
        setAnti();
        setAntiState();
        setTime();
        setAttributes();
        writeState();
        writeFull();
        writeChangesNothing();
        readAnswers();
        readReplaces();
        faultOfLatest();
        ofWhich();
        ofWrong();
        ofUnknown();
        numberNone();
        numberSign();
        atWhich();
        atNone();
        coderAtWhich();
        coderAtNone();
        coderAtState();
        peekThrows();
        pokeThrows();
        pokeOrder();
        typeHowMany();
        typeEmpties();
        typeFull();
        cutEdges();
        sealWhich();
        sealShort();
        sealLength();
        sealWhat();
        countWhich();
        clearAll();
        calls512();
        DUE.end();
    }

    private static void is(String what, long got, long want) {
        DUE.is(what, got, want);
    }

    /** "NONE = -1, BAD = -2, STATE = -3, FULL = -4". */
    private static void constants() {
        is("NONE", NONE, -1);
        is("BAD", BAD, -2);
        is("STATE", STATE, -3);
        is("FULL", FULL, -4);
    }

    /** "No ENTRIES, CODERS; an empty TAPE." */
    private static void newObject() {
        SevenForms x = new SevenForms();
        DUE.holds("1 all of it", State.of(x).equals("entries 0\nblock 0: 0 -1 -1 -1 -1\nblock 1: 0 -1 -1 -1 -1\n"
            + "block 2: 0 -1 -1 -1 -1\nblock 3: 0 -1 -1 -1 -1\nblock 4: 0 -1 -1 -1 -1\nblock 5: 0 -1 -1 -1 -1\nfault 0\ntape 0:\n"));
        is("1 no byte 0", Due.peekThrows(x, 0), 1);
        is("1 no entry 0", x.of(0, 0), BAD);
        DUE.refuses("1 no entry to name", x, () -> x.name(0, 'a'), BAD);
        DUE.refuses("1 no byte to keep", x, () -> x.cut(1), BAD);
        is("1 another one is new, too", new SevenForms().entry(1), 0);
    }

    /** "A FILE (kind 0) or DIRECTORY (1): its number. BAD". */
    private static void entryKinds() {
        SevenForms x = new SevenForms();
        for (int kind : new int[] {-1, 2, LOW, HIGH}) {
            DUE.refuses("2 kind " + kind, x, () -> x.entry(kind), BAD);
        }
        is("2 a file", x.entry(0), 0);
        is("2 a directory", x.entry(1), 1);
        is("2 kind of the file", x.of(0, 0), 0);
        is("2 kind of the directory", x.of(1, 0), 1);
    }

    /** "ENTRIES (24 at most)"; "BAD; FULL". */
    private static void entryFull() {
        SevenForms x = Samples.empties(23);
        is("2 the last one", x.entry(0), 23);
        DUE.refuses("2 a file more", x, () -> x.entry(0), FULL);
        DUE.refuses("2 a directory more", x, () -> x.entry(1), FULL);
        DUE.refuses("2 BAD ahead of FULL", x, () -> x.entry(2), BAD);
        is("2 the last one can be used", x.put(23, 1, 1), 1);
        SevenForms y = Samples.empties(24);
        is("2 24 are written", y.write() > 32 ? 1 : 0, 1);
        is("2 and read", y.read(), 24);
        DUE.refuses("2 those that are read count", y, () -> y.entry(0), FULL);
        is("2 cleared", y.clear(), 24);
        is("2 from 0 again", y.entry(0), 0);
    }

    /** "A unit behind a NAME: how many. BAD" of an ENTRY that is none. */
    private static void nameWhich() {
        SevenForms x = Samples.empties(2);
        for (int e : new int[] {-1, 2, 23, 24, LOW, HIGH}) {
            DUE.refuses("3 entry " + e, x, () -> x.name(e, 'a'), BAD);
        }
        is("3 the last entry", x.name(1, 'z'), 2);
        is("3 the first entry", x.name(0, 'z'), 2);
    }

    /** "units, chars but 0"; "BAD: also 0". */
    private static void nameUnits() {
        SevenForms x = Samples.empties(1);
        DUE.refuses("3 unit 0", x, () -> x.name(0, (char) 0), BAD);
        for (int unit : new int[] {1, 255, 256, 0x7FFF, 0x8000, 0xD800, 0xFFFF}) {
            int before = x.of(0, 3);
            is("3 unit " + unit, x.name(0, (char) unit), before + 1);
            is("3 is told", x.at(0, 0, before), unit);
        }
        String told = State.archive(x);
        x.write();
        is("3 such units are read again", x.read(), 1);
        DUE.holds("3 as they were", told.equals(State.archive(x)));
    }

    /** "a NAME (1 to 20 units)"; "FULL". */
    private static void nameFull() {
        SevenForms x = Samples.empties(2);
        for (int k = 2; k <= 20; k++) {
            is("3 unit " + k, x.name(0, (char) k), k);
        }
        DUE.refuses("3 a 21st unit", x, () -> x.name(0, 'x'), FULL);
        DUE.refuses("3 BAD ahead of FULL", x, () -> x.name(0, (char) 0), BAD);
        is("3 another entry is not full", x.name(1, 'x'), 2);
        is("3 the 20th", x.at(0, 0, 19), 20);
        x.write();
        is("3 20 units are read", x.read(), 2);
        is("3 all 20", x.of(0, 3), 20);
        DUE.refuses("3 those that are read count", x, () -> x.name(0, 'x'), FULL);
    }

    /** "BYTES behind those of a FILE .. BAD (a DIRECTORY, too)". */
    private static void putWhich() {
        SevenForms x = Samples.empties(2);
        for (int e : new int[] {-1, 2, 24, LOW, HIGH}) {
            DUE.refuses("4 entry " + e, x, () -> x.put(e, 1, 1), BAD);
        }
        DUE.refuses("4 a directory", x, () -> x.put(1, 1, 1), BAD);
        x.set(1, 0, 1);
        DUE.refuses("4 an ANTI directory is BAD ahead of STATE", x, () -> x.put(1, 1, 1), BAD);
        is("4 a file", x.put(0, 1, 1), 1);
    }

    /** "n (1 to 8) BYTES". */
    private static void putHowMany() {
        SevenForms x = Samples.empties(1);
        for (int n : new int[] {0, 9, -1, LOW, HIGH}) {
            DUE.refuses("4 n " + n, x, () -> x.put(0, 1, n), BAD);
        }
        int sum = 0;
        for (int n = 1; n <= 8; n++) {
            sum += n;
            is("4 n " + n, x.put(0, -1, n), sum);
        }
    }

    /** "the lowest of w, the highest first". */
    private static void putOrder() {
        SevenForms x = Samples.empties(1);
        x.put(0, 0xF1F2F3F4F5F6F7F8L, 1);
        x.put(0, 0xF1F2F3F4F5F6F7F8L, 8);
        x.put(0, 0xF1F2F3F4F5F6F7F8L, 7);
        int[] due = {0xF8, 0xF1, 0xF2, 0xF3, 0xF4, 0xF5, 0xF6, 0xF7, 0xF8, 0xF2, 0xF3, 0xF4, 0xF5, 0xF6, 0xF7, 0xF8};
        for (int i = 0; i < due.length; i++) {
            is("4 byte " + i, x.at(0, 1, i), due[i]);
        }
        is("4 no more", x.at(0, 1, due.length), NONE);
    }

    /** "STATE: nobody KNOWS its BLOCK, or it is ANTI". */
    private static void putState() {
        SevenForms x = Samples.empties(1);
        x.set(0, 0, 1);
        DUE.refuses("4 ANTI", x, () -> x.put(0, 1, 1), STATE);
        DUE.refuses("4 BAD ahead of STATE", x, () -> x.put(0, 1, 0), BAD);
        x.set(0, 0, 0);
        is("4 ANTI no more", x.put(0, 1, 1), 1);
        SevenForms y = Samples.half();
        DUE.refuses("4 nobody knows it", y, () -> y.put(0, 1, 1), STATE);
        DUE.refuses("4 an empty file in it", y, () -> y.put(3, 1, 1), STATE);
        DUE.refuses("4 BAD ahead of that", y, () -> y.put(0, 1, 9), BAD);
        DUE.refuses("4 the directory is BAD", y, () -> y.put(4, 1, 1), BAD);
        is("4 a file of the known one", y.put(2, 1, 1), 4);
        is("4 a new file", y.entry(0), 5);
        DUE.refuses("4 it stands in BLOCK 0, too", y, () -> y.put(5, 1, 1), STATE);
        SevenForms z = Samples.unknown(2400);
        is("4 its size", z.of(0, 1), 2400);
        DUE.refuses("4 STATE ahead of FULL", z, () -> z.put(0, 1, 1), STATE);
    }

    /** "FILES have 0 to 120 BYTES"; "FULL". */
    private static void putFull() {
        for (int n = 1; n <= 8; n++) {
            int last = n;
            SevenForms x = Samples.file(120 - n);
            is("4 just 120 by " + n, x.put(0, 1, n), 120);
            DUE.refuses("4 one more than 120", x, () -> x.put(0, 1, 1), FULL);
            DUE.refuses("4 eight more than 120", x, () -> x.put(0, 1, 8), FULL);
            DUE.refuses("4 BAD ahead of FULL", x, () -> x.put(0, 1, 9), BAD);
            SevenForms y = Samples.file(121 - n);
            DUE.refuses("4 121 by " + n, y, () -> y.put(0, 1, last), FULL);
            is("4 what fits is taken then", n == 1 ? 120 : y.put(0, 1, n - 1), 120);
        }
        SevenForms z = Samples.file(120);
        is("4 another file is not full", Samples.addFile(z, 120), 1);
        is("4 it has 120", z.of(1, 1), 120);
    }

    /** "(when they are read, as many as there are)". */
    private static void putBehindRead() {
        for (int size : new int[] {1, 119, 120, 121, 2399, 2400}) {
            SevenForms x = Samples.readFile(size);
            is("4 read of " + size, x.of(0, 1), size);
            is("4 its last byte", x.at(0, 1, size - 1), 0);
            is("4 none behind", x.at(0, 1, size), NONE);
            if (size < 120) {
                is("4 one more", x.put(0, 7, 1), size + 1);
                is("4 stands behind", x.at(0, 1, size), 7);
            } else {
                DUE.refuses("4 full by read: " + size, x, () -> x.put(0, 7, 1), FULL);
            }
            int now = x.of(0, 1);
            is("4 written as it is", x.write() > 32 + now ? 1 : 0, 1);
            is("4 and read", x.read(), 1);
            is("4 of as many bytes", x.of(0, 1), now);
            is("4 and a right check", x.of(0, 7), 0);
        }
    }

    /** "A FILE stands in a BLOCK .. BAD"; "a BLOCK 0 to 5 (at first 0)". */
    private static void blockWhich() {
        SevenForms x = Samples.empties(2);
        for (int e : new int[] {-1, 2, 24, LOW, HIGH}) {
            DUE.refuses("5 entry " + e, x, () -> x.block(e, 1), BAD);
        }
        for (int b : new int[] {-1, 6, LOW, HIGH}) {
            DUE.refuses("5 block " + b, x, () -> x.block(0, b), BAD);
        }
        DUE.refuses("5 a directory", x, () -> x.block(1, 1), BAD);
        is("5 at first 0", x.of(0, 2), 0);
        is("5 up to 5", x.block(0, 5), 0);
        is("5 in 5", x.of(0, 2), 5);
    }

    /** "in which it stood". */
    private static void blockAnswers() {
        SevenForms x = Samples.file(3);
        int before = 0;
        for (int b : new int[] {0, 5, 5, 1, 4, 0}) {
            is("5 from " + before + " to " + b, x.block(0, b), before);
            is("5 stands there", x.of(0, 2), b);
            before = b;
        }
    }

    /** "STATE: nobody KNOWS one of them". */
    private static void blockState() {
        SevenForms x = Samples.half();
        DUE.refuses("5 from there", x, () -> x.block(0, 1), STATE);
        DUE.refuses("5 from there to there", x, () -> x.block(0, 0), STATE);
        DUE.refuses("5 an empty one from there", x, () -> x.block(3, 1), STATE);
        DUE.refuses("5 to there", x, () -> x.block(2, 0), STATE);
        DUE.refuses("5 BAD ahead of STATE: block", x, () -> x.block(0, 6), BAD);
        DUE.refuses("5 BAD ahead of STATE: directory", x, () -> x.block(4, 0), BAD);
        is("5 from a known one to one without coders", x.block(2, 2), 1);
        is("5 and back", x.block(2, 1), 2);
    }

    /** "A CODER (0 to 3 ..) behind those of a BLOCK .. BAD". */
    private static void coderWhich() {
        SevenForms x = new SevenForms();
        for (int b : new int[] {-1, 6, LOW, HIGH}) {
            DUE.refuses("6 block " + b, x, () -> x.coder(b, 0, 1), BAD);
        }
        for (int kind : new int[] {-1, 4, LOW, HIGH}) {
            DUE.refuses("6 kind " + kind, x, () -> x.coder(0, kind, 1), BAD);
        }
        for (int b = 0; b < 6; b++) {
            is("6 block " + b, x.coder(b, b % 4, 1), 1);
        }
        is("6 copy", x.coderAt(0, 0), 0);
        is("6 delta", x.coderAt(1, 0), 5);
        is("6 swap", x.coderAt(2, 0), 2);
        is("6 turn", x.coderAt(3, 0), 3);
    }

    /** "DELTA of d (1 to 256)"; "d of DELTA". */
    private static void coderDistance() {
        SevenForms x = new SevenForms();
        for (int d : new int[] {0, 257, -1, LOW, HIGH}) {
            DUE.refuses("6 d " + d, x, () -> x.coder(0, 1, d), BAD);
            for (int kind : new int[] {0, 2, 3}) {
                SevenForms y = new SevenForms();
                is("6 d " + d + " is nothing to kind " + kind, y.coder(0, kind, d), 1);
                is("6 and is not told", y.coderAt(0, 0), kind);
            }
        }
        is("6 d 1", x.coder(0, 1, 1), 1);
        is("6 d 256", x.coder(0, 1, 256), 2);
        is("6 told 1", x.coderAt(0, 0), 5);
        is("6 told 256", x.coderAt(0, 1), 1025);
    }

    /** "STATE: nobody KNOWS it; FULL". */
    private static void coderState() {
        SevenForms x = Samples.half();
        DUE.refuses("6 nobody knows it: STATE ahead of FULL, too", x, () -> x.coder(0, 0, 0), STATE);
        DUE.refuses("6 BAD ahead of STATE: kind", x, () -> x.coder(0, 4, 0), BAD);
        DUE.refuses("6 BAD ahead of STATE: d", x, () -> x.coder(0, 1, 257), BAD);
        is("6 behind the COPY that was read", x.coder(1, 2, 0), 2);
        SevenForms y = Samples.unknown(1);
        DUE.refuses("6 one coder, but nobody knows it", y, () -> y.coder(0, 0, 0), STATE);
    }

    /** "up to 3 CODERS"; "FULL". */
    private static void coderFull() {
        SevenForms x = new SevenForms();
        for (int c = 1; c <= 3; c++) {
            is("6 coder " + c, x.coder(2, c, c), c);
        }
        DUE.refuses("6 a fourth", x, () -> x.coder(2, 0, 0), FULL);
        DUE.refuses("6 BAD ahead of FULL", x, () -> x.coder(2, 1, 0), BAD);
        is("6 another block is not full", x.coder(3, 0, 0), 1);
    }

    /** "What = 0 .. 4 .. BAD". */
    private static void setWhich() {
        SevenForms x = Samples.empties(2);
        for (int e : new int[] {-1, 2, 24, LOW, HIGH}) {
            for (int what = 0; what <= 4; what++) {
                int w = what;
                DUE.refuses("7 entry " + e, x, () -> x.set(e, w, 0), BAD);
            }
        }
        for (int what : new int[] {-1, 5, LOW, HIGH}) {
            DUE.refuses("7 what " + what, x, () -> x.set(0, what, 1), BAD);
        }
        for (int what = 0; what <= 4; what++) {
            is("7 what " + what, x.set(1, what, 1), 1);
        }
    }

    /** "0: ANTI (v 1) or not (0)"; "what has no BYTES may be ANTI". */
    private static void setAnti() {
        SevenForms x = Samples.empties(2);
        for (long v : new long[] {-1, 2, 1L << 32, (1L << 32) + 1, Long.MIN_VALUE, Long.MAX_VALUE}) {
            DUE.refuses("7 v " + v, x, () -> x.set(0, 0, v), BAD);
        }
        for (int e = 0; e < 2; e++) {
            is("7 at first not", x.of(e, 4), 0);
            is("7 anti", x.set(e, 0, 1), 1);
            is("7 still", x.set(e, 0, 1), 1);
            is("7 is anti", x.of(e, 4), 1);
            is("7 not", x.set(e, 0, 0), 1);
            is("7 is not", x.of(e, 4), 0);
        }
    }

    /** "STATE: ANTI, but it has BYTES (a SIZE)". */
    private static void setAntiState() {
        SevenForms x = Samples.file(1);
        DUE.refuses("7 one byte", x, () -> x.set(0, 0, 1), STATE);
        DUE.refuses("7 BAD ahead of STATE", x, () -> x.set(0, 0, 2), BAD);
        is("7 not anti is fine", x.set(0, 0, 0), 1);
        SevenForms y = Samples.half();
        DUE.refuses("7 a size of a block that nobody knows", y, () -> y.set(0, 0, 1), STATE);
        is("7 not anti is fine there", y.set(0, 0, 0), 1);
        is("7 without a size there", y.set(3, 0, 1), 1);
        is("7 a directory there", y.set(4, 0, 1), 1);
    }

    /** "1: a TIME v; 2: none"; "a TIME (a long)". */
    private static void setTime() {
        SevenForms x = Samples.empties(1);
        is("7 no time at first", x.of(0, 5), 0);
        is("7 none to take away", x.set(0, 2, 9), 1);
        for (long v : new long[] {0, 1, -1, 1L << 32, Long.MIN_VALUE, Long.MAX_VALUE}) {
            is("7 time " + v, x.set(0, 1, v), 1);
            is("7 has it", x.of(0, 5), 1);
            is("7 tells it", x.number(0, 0), v);
            x.write();
            is("7 read", x.read(), 1);
            is("7 has it still", x.of(0, 5), 1);
            is("7 tells it still", x.number(0, 0), v);
        }
        is("7 away", x.set(0, 2, Long.MIN_VALUE), 1);
        is("7 has none", x.of(0, 5), 0);
        is("7 tells none", x.number(0, 0), 0);
    }

    /** "3: ATTRIBUTES (the lowest 32 bits); 4: none"; "ATTRIBUTES (an int)". */
    private static void setAttributes() {
        SevenForms x = Samples.empties(1);
        is("7 no attributes at first", x.of(0, 6), 0);
        is("7 none to take away", x.set(0, 4, 9), 1);
        long[] given = {0, 1, -1, HIGH, LOW, HIGH + 1L, 0xFFFFFFFFL, 1L << 32, (1L << 32) + 5, Long.MIN_VALUE, Long.MAX_VALUE};
        long[] due = {0, 1, -1, HIGH, LOW, LOW, -1, 0, 5, 0, -1};
        for (int k = 0; k < given.length; k++) {
            is("7 attributes " + given[k], x.set(0, 3, given[k]), 1);
            is("7 has them", x.of(0, 6), 1);
            is("7 tells them", x.number(0, 1), due[k]);
            x.write();
            is("7 read", x.read(), 1);
            is("7 has them still", x.of(0, 6), 1);
            is("7 tells them still", x.number(0, 1), due[k]);
        }
        is("7 away", x.set(0, 4, 1), 1);
        is("7 has none", x.of(0, 6), 0);
        is("7 tells none", x.number(0, 1), 0);
    }

    /** "STATE: an ENTRY has no NAME, or nobody KNOWS the BLOCK of one with a SIZE". */
    private static void writeState() {
        SevenForms x = new SevenForms();
        x.type(7, 1);
        x.entry(0);
        DUE.refuses("8 a file without a name", x, x::write, STATE);
        x.name(0, 'a');
        x.entry(1);
        DUE.refuses("8 a directory without a name", x, x::write, STATE);
        x.name(1, 'b');
        is("8 both have one unit", x.write() > 32 ? 1 : 0, 1);
        SevenForms y = Samples.half();
        DUE.refuses("8 nobody knows a block", y, y::write, STATE);
        SevenForms z = Samples.unknown(2400);
        for (int k = 0; k < 20; k++) {
            z.entry(1);
        }
        DUE.refuses("8 nobody knows it, and no name", z, z::write, STATE);
        z.clear();
        is("8 no entries, no such block", z.write(), 32);
    }

    /** "FULL: a BLOCK has more than 2400 BYTES, or it would be more than 5000." */
    private static void writeFull() {
        SevenForms x = new SevenForms();
        for (int k = 0; k < 20; k++) {
            Samples.addFile(x, 120);
        }
        int length = x.write();
        is("8 2400 bytes", length > 2432 ? 1 : 0, 1);
        Samples.addFile(x, 1);
        DUE.refuses("8 2401 bytes", x, x::write, FULL);
        x.block(20, 5);
        is("8 in two blocks", x.write() > length ? 1 : 0, 1);
        x.block(20, 0);
        x.entry(0);
        DUE.refuses("8 STATE ahead of FULL", x, x::write, STATE);
        x.name(21, 'z');
        x.block(20, 1);
        is("8 an empty file is no byte more", x.write() > length ? 1 : 0, 1);
        SevenForms y = Samples.fiveThousand();
        is("8 its entries", y.count(0), 4);
        is("8 a tape of 5000", y.write(), 5000);
        is("8 is read", y.read(), 4);
        y.put(3, 1, 1);
        DUE.refuses("8 a tape of 5001", y, y::write, FULL);
        y.entry(0);
        DUE.refuses("8 STATE ahead of that FULL", y, y::write, STATE);
        y.clear();
        y.entry(1);
        y.name(0, 'a');
        is("8 what fits is written behind a FULL", y.write(), 47);
        SevenForms z = Samples.fiveThousand();
        for (int b = 0; b < 6; b++) {
            z.coder(b, 1, 1);
            z.coder(b, 3, 0);
        }
        for (int e = 4; e < 24; e++) {
            z.block(Samples.addFile(z, 120), 4);
        }
        DUE.refuses("8 packed alone it would be more than 5000", z, z::write, FULL);
    }

    /** "THE TAPE is that: how many bytes." ENTRIES and CODERS stay as they are, and what was on THE TAPE goes. */
    private static void writeChangesNothing() {
        SevenForms x = Samples.file(5);
        x.coder(0, 1, 2);
        x.coder(3, 3, 0);
        Samples.addFile(x, 9);
        x.block(1, 3);
        for (int k = 0; k < 100; k++) {
            x.type(-1, 8);
        }
        String before = State.archive(x);
        int length = x.write();
        is("8 how many", x.count(1), length);
        is("8 less than there was", length < 800 ? 1 : 0, 1);
        DUE.holds("8 all but the tape is as it was", before.equals(State.archive(x)));
        byte[] once = Form.typed(x);
        is("8 again", x.write(), length);
        DUE.holds("8 the same tape", Arrays.equals(once, Form.typed(x)));
        x.clear();
        is("8 nothing", x.write(), 32);
        is("8 no byte 32", Due.peekThrows(x, 32), 1);
    }

    /** "how many ENTRIES; -10 less the PLACE of a FAULT." */
    private static void readAnswers() {
        SevenForms x = new SevenForms();
        is("9 the lowest place", x.read(), -10);
        is("9 its fault", x.fault(), 1);
        x.write();
        is("9 no entries", x.read(), 0);
        is("9 no fault", x.fault(), 0);
        SevenForms y = Samples.empties(24);
        y.write();
        is("9 24 entries", y.read(), 24);
        SevenForms z = new SevenForms();
        Form.type(z, Form.tape(new byte[2400], Form.parse("1 4 6 0 1 9 137 96 0 7 11 1 0")));
        is("9 a place far behind", z.read(), -10 - (32 + 2400 + 13));
        Form.type(z, new byte[5000]);
        is("9 5000 bytes", z.read(), -10);
        is("9 that are none of the form", z.fault(), 2);
    }

    /** "Then ENTRIES are those"; "With a FAULT all is as it was." */
    private static void readReplaces() {
        SevenForms x = Samples.file(3);
        x.write();
        for (int k = 0; k < 5; k++) {
            x.entry(k % 2);
            x.coder(k + 1, 1, k + 1);
        }
        x.poke(x.count(1) - 1, 9);
        x.seal(1);
        String before = State.archive(x);
        is("9 a fault", x.read(), -10 - (x.count(1) - 1));
        DUE.holds("9 all is as it was", before.equals(State.archive(x)));
        x.poke(x.count(1) - 1, 0);
        x.seal(1);
        is("9 no fault", x.read(), 1);
        is("9 one entry", x.count(0), 1);
        is("9 no second", x.of(1, 0), BAD);
        for (int b = 1; b < 6; b++) {
            is("9 no coders of block " + b, x.coderAt(b, NONE), 0);
        }
        byte[] tape = Form.typed(x);
        x.read();
        DUE.holds("9 the tape stays", Arrays.equals(tape, Form.typed(x)));
        String again = State.archive(x);
        x.poke(x.count(1) - 1, 9);
        x.seal(1);
        is("9 a fault behind two reads", x.read(), -10 - (x.count(1) - 1));
        DUE.holds("9 all is as it was then, too", again.equals(State.archive(x)));
    }

    /** "The FAULT of the latest read(); 0: it had none." */
    private static void faultOfLatest() {
        SevenForms x = Samples.file(3);
        is("10 none was read", x.fault(), 0);
        x.write();
        x.cut(31);
        x.read();
        is("10 a fault", x.fault(), 1);
        x.write();
        x.clear();
        x.entry(7);
        is("10 other calls leave it", x.fault(), 1);
        x.read();
        is("10 none", x.fault(), 0);
        x.poke(0, 0);
        is("10 none before it is read", x.fault(), 0);
        x.read();
        is("10 another one", x.fault(), 2);
        x.poke(0, 55);
        x.poke(9, 255 ^ x.peek(9));
        x.read();
        is("10 and another one", x.fault(), 3);
    }

    /** "Of an ENTRY: what = 0 .. 8 .. BAD." */
    private static void ofWhich() {
        SevenForms x = Samples.file(2);
        for (int what : new int[] {-1, 9, LOW, HIGH}) {
            is("11 what " + what, x.of(0, what), BAD);
        }
        for (int e : new int[] {-1, 1, 24, LOW, HIGH}) {
            for (int what = 0; what < 9; what++) {
                is("11 entry " + e, x.of(e, what), BAD);
            }
        }
        int[] due = {0, 2, 0, 1, 0, 0, 0, 0, 0};
        for (int what = 0; what < 9; what++) {
            is("11 what " + what, x.of(0, what), due[what]);
        }
    }

    /** "7 whether its CHECK was WRONG when it was read". */
    private static void ofWrong() {
        SevenForms x = Samples.file(2);
        Samples.addFile(x, 2);
        x.entry(0);
        x.name(2, 'c');
        x.write();
        is("11 not before it is read", x.of(0, 7), 0);
        x.poke(33, 255 ^ x.peek(33));
        is("11 read", x.read(), 3);
        is("11 wrong", x.of(0, 7), 1);
        is("11 the file behind it is right", x.of(1, 7), 0);
        is("11 an empty one is right", x.of(2, 7), 0);
        x.put(0, 0, 1);
        x.write();
        is("11 it was wrong when it was read", x.of(0, 7), 1);
        x.read();
        is("11 then it is right", x.of(0, 7), 0);
        SevenForms y = Samples.unknown(4);
        is("11 of what nobody knows there is no check", y.of(0, 7), 0);
    }

    /** "8 whether nobody KNOWS its BLOCK (it has a SIZE, but no BYTES)". */
    private static void ofUnknown() {
        SevenForms x = Samples.half();
        int[] due = {1, 1, 0, 0, 0};
        int[] sizes = {2, 5, 3, 0, 0};
        for (int e = 0; e < 5; e++) {
            is("11 unknown " + e, x.of(e, 8), due[e]);
            is("11 size " + e, x.of(e, 1), sizes[e]);
            is("11 first byte " + e, x.at(e, 1, 0), e == 2 ? 1 : NONE);
            is("11 wrong " + e, x.of(e, 7), 0);
        }
        is("11 no check of such a file", x.number(0, 2), 0);
        x.clear();
        x.entry(0);
        is("11 all are known again", x.of(0, 8), 0);
        is("11 and take bytes", x.put(0, 1, 1), 1);
    }

    /** "0: none, or BAD." */
    private static void numberNone() {
        SevenForms x = Samples.file(4);
        x.set(0, 1, 5);
        x.set(0, 3, 6);
        for (int what : new int[] {-1, 3, LOW, HIGH}) {
            is("12 what " + what, x.number(0, what), 0);
        }
        for (int e : new int[] {-1, 1, 24, LOW, HIGH}) {
            for (int what = 0; what < 3; what++) {
                is("12 entry " + e, x.number(e, what), 0);
            }
        }
        is("12 time", x.number(0, 0), 5);
        is("12 attributes", x.number(0, 1), 6);
        is("12 check", x.number(0, 2), Form.check(new byte[] {1, 2, 3, 4}));
        SevenForms y = Samples.empties(2);
        for (int what = 0; what < 3; what++) {
            is("12 a file that has none", y.number(0, what), 0);
            is("12 a directory that has none", y.number(1, what), 0);
        }
    }

    /** "the CHECK of its BYTES (2; without sign)". */
    private static void numberSign() {
        SevenForms x = Samples.empties(1);
        x.put(0, 0, 1);
        is("12 the check of 0", x.number(0, 2), 0xD202EF8DL);
        x.put(0, 0, 3);
        is("12 the check of four 0", x.number(0, 2), 0x2144DF1CL);
        SevenForms y = Samples.empties(1);
        y.put(0, -1, 4);
        is("12 the check of four 255", y.number(0, 2), 0xFFFFFFFFL);
        y.set(0, 3, -1);
        is("12 attributes have their sign", y.number(0, 1), -1);
    }

    /** "BAD: entry, part." */
    private static void atWhich() {
        SevenForms x = Samples.file(2);
        for (int e : new int[] {-1, 1, 24, LOW, HIGH}) {
            is("13 entry " + e, x.at(e, 0, 0), BAD);
            is("13 entry ahead of i", x.at(e, 1, -1), BAD);
        }
        for (int part : new int[] {-1, 2, LOW, HIGH}) {
            is("13 part " + part, x.at(0, part, 0), BAD);
            is("13 part ahead of i", x.at(0, part, -1), BAD);
        }
    }

    /** "Unit i of a NAME (part = 0), BYTE i (1; 0 to 255); NONE: none such." */
    private static void atNone() {
        SevenForms x = Samples.file(0);
        x.put(0, 0xFF00, 2);
        x.name(0, (char) 65535);
        is("13 first unit", x.at(0, 0, 0), 'a');
        is("13 last unit", x.at(0, 0, 1), 65535);
        is("13 first byte", x.at(0, 1, 0), 255);
        is("13 last byte", x.at(0, 1, 1), 0);
        for (int i : new int[] {-1, 2, 19, 20, 120, LOW, HIGH}) {
            is("13 unit " + i, x.at(0, 0, i), NONE);
            is("13 byte " + i, x.at(0, 1, i), NONE);
        }
        SevenForms y = new SevenForms();
        y.entry(1);
        is("13 no name", y.at(0, 0, 0), NONE);
        is("13 a directory has no bytes", y.at(0, 1, 0), NONE);
    }

    /** "Of a BLOCK .. BAD". */
    private static void coderAtWhich() {
        SevenForms x = new SevenForms();
        for (int b : new int[] {-1, 6, LOW, HIGH}) {
            for (int i : new int[] {NONE, 0, 3}) {
                is("14 block " + b, x.coderAt(b, i), BAD);
            }
        }
        is("14 block 0", x.coderAt(0, NONE), 0);
        is("14 block 5", x.coderAt(5, NONE), 0);
    }

    /** "how many CODERS (i = NONE); CODER i: its kind, and 4 d of DELTA; NONE: none such." */
    private static void coderAtNone() {
        SevenForms x = new SevenForms();
        for (int c = 0; c <= 3; c++) {
            is("14 how many", x.coderAt(4, NONE), c);
            for (int i : new int[] {-2, c, 3, 4, LOW, HIGH}) {
                is("14 none such of " + c + ": " + i, x.coderAt(4, i), NONE);
            }
            x.coder(4, c == 0 ? 1 : c, 256);
        }
        is("14 first", x.coderAt(4, 0), 1025);
        is("14 last", x.coderAt(4, 2), 2);
    }

    /** "STATE: nobody KNOWS it." */
    private static void coderAtState() {
        SevenForms x = Samples.half();
        for (int i : new int[] {-2, NONE, 0, 2, 3, LOW, HIGH}) {
            is("14 nobody knows it: " + i, x.coderAt(0, i), STATE);
        }
        is("14 the one behind it", x.coderAt(1, NONE), 1);
        is("14 its COPY", x.coderAt(1, 0), 0);
        is("14 no more", x.coderAt(1, 1), NONE);
        is("14 one that the tape has not", x.coderAt(2, NONE), 0);
        is("14 BAD", x.coderAt(6, NONE), BAD);
    }

    /** "Byte i of THE TAPE, 0 to 255. ArrayIndexOutOfBoundsException." */
    private static void peekThrows() {
        SevenForms x = new SevenForms();
        x.type(0xFF7F8000L, 4);
        int[] due = {255, 127, 128, 0};
        for (int i = 0; i < 4; i++) {
            is("15 byte " + i, x.peek(i), due[i]);
        }
        for (long i : new long[] {-1, 4, 4999, 5000, 1L << 31, 1L << 32, (1L << 32) + 3, -(1L << 32), Long.MIN_VALUE, Long.MAX_VALUE}) {
            is("15 throws at " + i, Due.peekThrows(x, i), 1);
        }
        x.cut(3);
        is("15 what was cut is gone", Due.peekThrows(x, 3), 1);
        SevenForms full = Samples.fiveThousand();
        is("15 the last byte of a full tape", Due.peekThrows(full, 4999), 0);
        is("15 none behind a full tape", Due.peekThrows(full, 5000), 1);
        is("15 the last one stays", Due.peekThrows(x, 2), 0);
    }

    /** "That byte becomes another one: what it was. ArrayIndexOutOfBoundsException; IllegalArgumentException ..: v is not 0 to 255." */
    private static void pokeThrows() {
        SevenForms x = new SevenForms();
        x.type(0x0102L, 2);
        String before = State.of(x);
        for (int v : new int[] {-1, 256, LOW, HIGH}) {
            is("16 value " + v, Due.pokeThrows(x, 0, v), 2);
            is("16 value " + v, Due.pokeThrows(x, 1, v), 2);
        }
        for (long i : new long[] {-1, 2, 5000, 1L << 32, (1L << 32) + 1, -(1L << 32), Long.MIN_VALUE, Long.MAX_VALUE}) {
            is("16 place " + i, Due.pokeThrows(x, i, 7), 1);
        }
        DUE.holds("16 nothing changed", before.equals(State.of(x)));
        is("16 the first to 0", x.poke(0, 0), 1);
        is("16 the first to 255", x.poke(0, 255), 0);
        is("16 it was 255", x.poke(0, 128), 255);
        is("16 the last", x.poke(1, 255), 2);
        is("16 the first is 128", x.peek(0), 128);
        is("16 the last is 255", x.peek(1), 255);
        is("16 no byte more", x.count(1), 2);
        SevenForms full = Samples.fiveThousand();
        is("16 the last byte of a full tape", Due.pokeThrows(full, 4999, 255), 0);
        is("16 none behind a full tape", Due.pokeThrows(full, 5000, 255), 1);
    }

    /** "ArrayIndexOutOfBoundsException; IllegalArgumentException (behind it)". */
    private static void pokeOrder() {
        SevenForms x = new SevenForms();
        is("16 an empty tape", Due.pokeThrows(x, 0, 0), 1);
        is("16 an empty tape and a wrong value", Due.pokeThrows(x, 0, 256), 1);
        x.type(0, 1);
        is("16 both wrong above", Due.pokeThrows(x, 1, 256), 1);
        is("16 both wrong below", Due.pokeThrows(x, -1, -1), 1);
        is("16 the value alone", Due.pokeThrows(x, 0, 256), 2);
    }

    /** "n (1 to 8) bytes behind THE TAPE, likewise: how many .. BAD". */
    private static void typeHowMany() {
        SevenForms x = new SevenForms();
        x.type(5, 1);
        for (int n : new int[] {-1, 9, LOW, HIGH}) {
            DUE.refuses("17 n " + n, x, () -> x.type(1, n), BAD);
        }
        int sum = 1;
        for (int n = 1; n <= 8; n++) {
            sum += n;
            is("17 n " + n, x.type(0xF1F2F3F4F5F6F7F8L, n), sum);
            is("17 its first byte", x.peek(sum - n), 0xF9 - n);
            is("17 its last byte", x.peek(sum - 1), 0xF8);
        }
    }

    /** "n = 0: it is empty". */
    private static void typeEmpties() {
        SevenForms x = Samples.file(3);
        is("17 empty already", x.type(7, 0), 0);
        x.write();
        String before = State.archive(x);
        is("17 emptied", x.type(-1, 0), 0);
        is("17 no bytes", x.count(1), 0);
        is("17 no byte 0", Due.peekThrows(x, 0), 1);
        DUE.holds("17 the rest stays", before.equals(State.archive(x)));
        is("17 from the first on", x.type(0x0809L, 2), 2);
        is("17 the first", x.peek(0), 8);
    }

    /** "FULL: 5000." More than 512 calls of type alone, so the tape is mostly written. */
    private static void typeFull() {
        SevenForms x = Samples.fiveThousand();
        x.write();
        DUE.refuses("17 one more than 5000", x, () -> x.type(1, 1), FULL);
        DUE.refuses("17 eight more than 5000", x, () -> x.type(1, 8), FULL);
        DUE.refuses("17 BAD ahead of FULL", x, () -> x.type(1, 9), BAD);
        for (int n = 1; n <= 8; n++) {
            int last = n;
            x.cut(5001 - n);
            DUE.refuses("17 5001 by " + n, x, () -> x.type(1, last), FULL);
            x.cut(5000 - n);
            is("17 5000 by " + n, x.type(0x3BL, n), 5000);
            is("17 its last byte", x.peek(4999), 0x3B);
        }
        is("17 a full one is emptied", x.type(1, 0), 0);
    }

    /** "THE TAPE keeps its first n bytes: n. BAD." */
    private static void cutEdges() {
        SevenForms x = new SevenForms();
        is("18 0 of none", x.cut(0), 0);
        for (int n : new int[] {1, -1, LOW, HIGH}) {
            DUE.refuses("18 " + n + " of none", x, () -> x.cut(n), BAD);
        }
        x.type(0x0102030405L, 5);
        for (int n : new int[] {6, 5000, -1, LOW, HIGH}) {
            DUE.refuses("18 " + n + " of 5", x, () -> x.cut(n), BAD);
        }
        is("18 all", x.cut(5), 5);
        is("18 all are there", x.peek(4), 5);
        is("18 but one", x.cut(4), 4);
        DUE.refuses("18 that one does not come back", x, () -> x.cut(5), BAD);
        is("18 the last one", x.peek(3), 4);
        is("18 a byte behind it", x.type(9, 1), 5);
        is("18 is the new one", x.peek(4), 9);
        is("18 none", x.cut(0), 0);
        is("18 no bytes", x.count(1), 0);
    }

    /** "BAD; STATE" of seal: 0 and 1 alone. */
    private static void sealWhich() {
        SevenForms x = new SevenForms();
        for (int what : new int[] {-1, 2, LOW, HIGH}) {
            DUE.refuses("19 BAD ahead of STATE: " + what, x, () -> x.seal(what), BAD);
        }
        x.write();
        for (int what : new int[] {-1, 2, LOW, HIGH}) {
            DUE.refuses("19 what " + what, x, () -> x.seal(what), BAD);
        }
    }

    /** "STATE: it has not 32 bytes". */
    private static void sealShort() {
        SevenForms x = new SevenForms();
        DUE.refuses("19 no bytes", x, () -> x.seal(0), STATE);
        DUE.refuses("19 no bytes", x, () -> x.seal(1), STATE);
        for (int k = 0; k < 31; k++) {
            x.type(0, 1);
        }
        DUE.refuses("19 31 bytes", x, () -> x.seal(0), STATE);
        DUE.refuses("19 31 bytes", x, () -> x.seal(1), STATE);
        x.type(0, 1);
        is("19 32 bytes", x.seal(0), 1);
        is("19 32 bytes", x.seal(1), 1);
    }

    /** "or (1) OFFSET and SIZE are not its length's". */
    private static void sealLength() {
        SevenForms x = Samples.file(2);
        int length = x.write();
        int size = x.peek(20);
        for (int[] told : new int[][] {{2, size - 1}, {2, size + 1}, {1, size}, {3, size}, {0, size}, {2, 0}}) {
            x.poke(12, told[0]);
            x.poke(20, told[1]);
            DUE.refuses("19 offset " + told[0] + " size " + told[1], x, () -> x.seal(1), STATE);
            is("19 the head alone", x.seal(0), 1);
        }
        for (int[] told : new int[][] {{0, size + 2}, {1, size + 1}, {size + 2, 0}, {2, size}}) {
            x.poke(12, told[0]);
            x.poke(20, told[1]);
            is("19 together: " + told[0] + " " + told[1], x.seal(1), 1);
        }
        for (int at = 13; at < 28; at++) {
            if (at != 20) {
                int high = at;
                x.poke(at, 128);
                DUE.refuses("19 a high byte at " + at, x, () -> x.seal(1), STATE);
                x.poke(high, 0);
            }
        }
        for (int at = 12; at < 20; at++) {
            x.poke(at, 255);
        }
        x.poke(20, length - 32 + 1);
        DUE.refuses("19 2^64 - 1 and one more round it", x, () -> x.seal(1), STATE);
        x.poke(19, 127);
        x.poke(27, 128);
        DUE.refuses("19 2^63 - 1 and 2^63", x, () -> x.seal(1), STATE);
        x.cut(x.count(1) - 1);
        DUE.refuses("19 a byte less", x, () -> x.seal(1), STATE);
    }

    /** "The CHECK at 8 of THE TAPE becomes right (what = 0), that at 28, and then that at 8 (1)". */
    private static void sealWhat() {
        SevenForms x = Samples.file(2);
        x.write();
        byte[] whole = Form.typed(x);
        for (int at : new int[] {8, 9, 10, 11}) {
            x.poke(at, 255 ^ x.peek(at));
        }
        is("19 what 0", x.seal(0), 1);
        DUE.holds("19 as it was", Arrays.equals(whole, Form.typed(x)));
        for (int at : new int[] {28, 31}) {
            x.poke(at, 255 ^ x.peek(at));
        }
        is("19 what 0", x.seal(0), 1);
        is("19 leaves that at 28", x.peek(28), 255 ^ whole[28] & 255);
        is("19 so it is wrong", x.read(), -10 - 28);
        is("19 by FAULT 4", x.fault(), 4);
        x.poke(8, 255 ^ x.peek(8));
        is("19 what 1", x.seal(1), 1);
        DUE.holds("19 all as it was", Arrays.equals(whole, Form.typed(x)));
        is("19 a right one stays", x.seal(1), 1);
        DUE.holds("19 still as it was", Arrays.equals(whole, Form.typed(x)));
    }

    /** "0 ENTRIES, 1 bytes of THE TAPE. BAD." */
    private static void countWhich() {
        SevenForms x = Samples.empties(24);
        x.type(0, 8);
        for (int what : new int[] {-1, 2, LOW, HIGH}) {
            is("20 what " + what, x.count(what), BAD);
        }
        is("20 entries", x.count(0), 24);
        is("20 bytes", x.count(1), 8);
        is("20 none", new SevenForms().count(0), 0);
        is("20 none", new SevenForms().count(1), 0);
    }

    /** "No ENTRIES, CODERS (THE TAPE stays): how many ENTRIES." */
    private static void clearAll() {
        SevenForms x = new SevenForms();
        is("21 none", x.clear(), 0);
        for (int k = 0; k < 24; k++) {
            x.entry(0);
            x.name(k, 'a');
            x.block(k, k % 6);
            x.set(k, 1, k);
            x.set(k, 3, k);
            x.coder(k % 6, k % 4, 9);
        }
        x.set(0, 0, 1);
        x.put(1, 5, 1);
        x.write();
        byte[] tape = Form.typed(x);
        is("21 24", x.clear(), 24);
        DUE.holds("21 as a new one", State.archive(x).equals(State.archive(new SevenForms())));
        DUE.holds("21 the tape stays", Arrays.equals(tape, Form.typed(x)));
        is("21 again", x.clear(), 0);
        SevenForms fresh = new SevenForms();
        for (int k = 0; k < 24; k++) {
            is("21 entry", x.entry(k % 2), fresh.entry(k % 2));
        }
        DUE.holds("21 new entries are new", State.archive(x).equals(State.archive(fresh)));
        SevenForms y = Samples.readFile(3);
        is("21 a wrong one", y.of(0, 7), 1);
        is("21 is cleared", y.clear(), 1);
        is("21 a new one", y.entry(0), 0);
        is("21 is not wrong", y.of(0, 7), 0);
    }

    /** "An object is used for at most 512 calls after it has been made": the last of them answers as the first. */
    private static void calls512() {
        SevenForms x = new SevenForms();
        x.entry(0);
        x.name(0, 'a');
        for (int call = 3; call < 512; call += 2) {
            int size = Math.min(120, call / 2);
            is("call " + call, x.put(0, call, 1), call / 2 <= 120 ? size : FULL);
            is("call " + (call + 1), x.write() > 32 + size ? 1 : 0, 1);
        }
    }
}
