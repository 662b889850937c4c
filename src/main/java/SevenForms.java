/** Archives of one form, written to a tape and read from it to the first byte that is not as it must be. */
public final class SevenForms {
    public static final int NONE = -1, BAD = -2, STATE = -3, FULL = -4;

    private static final int FILE = 0, DIRECTORY = 1;
    private static final int COPY = 0, DELTA = 1, SWAP = 2, TURN = 3;

    private static final int ENTRY_LIMIT = 24;
    private static final int NAME_LIMIT = 20;
    private static final int PUT_LIMIT = 120;
    private static final int BLOCK_LIMIT = 6;
    private static final int CODER_LIMIT = 3;
    private static final int DISTANCE_LIMIT = 256;
    private static final int BLOCK_BYTES = 2400;
    private static final int TAPE_LIMIT = 5000;

    private static final int HEAD = 32, HEAD_CHECK_AT = 8, OFFSET_AT = 12, SIZE_AT = 20, HEADER_CHECK_AT = 28;
    private static final int[] SIGNATURE = {55, 122, 188, 175, 39, 28, 0, 4};

    private static final int END = 0, HEADER = 1, STREAMS = 4, ENTRIES = 5, PACKS = 6, UNPACKS = 7, PARTS = 8, SIZES = 9;
    private static final int CHECKS = 10, FOLDERS = 11, GIVEN_SIZES = 12, FILE_COUNTS = 13;
    private static final int NO_BYTES = 14, NO_BYTES_FILES = 15, ANTIS = 16, NAMES = 17, TIMES = 20, ATTRIBUTES = 21;

    private static final int ID_LIMIT = 4, PROPERTY_LIMIT = 4, WITH_PROPERTIES = 32;
    private static final int COPY_ID = 0, DELTA_ID = 3, SWAP_ID = 0x020302, TURN_ID = 0x020304;

    private static final int SHORT_FAULT = 1, BYTE_FAULT = 2, HEAD_CHECK_FAULT = 3, HEADER_CHECK_FAULT = 4;
    private static final int NUMBER_FAULT = 5, BEHIND_FAULT = 6, BOND_FAULT = 7, NAME_FAULT = 8;

    /** Four of the document's eight steps at once for each value of the lowest four bits: reading is mostly checks. */
    private static final int[] CHECK_STEPS = {
        0x00000000, 0x1DB71064, 0x3B6E20C8, 0x26D930AC, 0x76DC4190, 0x6B6B51F4, 0x4DB26158, 0x5005713C,
        0xEDB88320, 0xF00F9344, 0xD6D6A3E8, 0xCB61B38C, 0x9B64C2B0, 0x86D3D2D4, 0xA00AE278, 0xBDBDF21C
    };

    // What is read, and what is written, is made beside what is there and changes places with it
    // when it is whole: so a fault or a FULL leaves all as it was, and no call needs new rows.
    private Archive archive;
    private Archive draft;
    private Tape tape;
    private Tape spare;
    private final TapeWriter writer;
    private final TapeReader reader;

    public SevenForms() {
        archive = new Archive();
        draft = new Archive();
        tape = new Tape();
        spare = new Tape();
        writer = new TapeWriter();
        Cursor cursor = new Cursor();
        reader = new TapeReader(cursor, new StreamsReader(cursor), new EntriesReader(cursor));
    }

    public int entry(int kind) {
        if (kind != FILE && kind != DIRECTORY) {
            return BAD;
        }
        if (archive.count >= ENTRY_LIMIT) {
            return FULL;
        }
        archive.addEntry(kind);
        return archive.count - 1;
    }

    public int name(int entry, char c) {
        Entry e = archive.find(entry);
        if (e == null || c == 0) {
            return BAD;
        }
        if (e.unitCount >= NAME_LIMIT) {
            return FULL;
        }
        e.addUnit(c);
        return e.unitCount;
    }

    public int put(int entry, long w, int n) {
        Entry e = archive.find(entry);
        if (e == null || e.kind != FILE || n < 1 || n > 8) {
            return BAD;
        }
        if (!archive.isKnown(e.home) || e.anti) {
            return STATE;
        }
        if (e.size + n > PUT_LIMIT) {
            return FULL;
        }
        e.addBytes(w, n);
        return e.size;
    }

    public int block(int entry, int block) {
        Entry e = archive.find(entry);
        if (e == null || e.kind != FILE || block < 0 || block >= BLOCK_LIMIT) {
            return BAD;
        }
        if (!archive.isKnown(e.home) || !archive.isKnown(block)) {
            return STATE;
        }
        int before = e.home;
        e.home = block;
        return before;
    }

    public int coder(int block, int kind, int d) {
        Block b = archive.findBlock(block);
        if (b == null || kind < COPY || kind > TURN) {
            return BAD;
        }
        if (kind == DELTA && (d < 1 || d > DISTANCE_LIMIT)) {
            return BAD;
        }
        if (!b.known) {
            return STATE;
        }
        if (b.coderCount >= CODER_LIMIT) {
            return FULL;
        }
        b.addCoder(kind, d);
        return b.coderCount;
    }

    public int set(int entry, int what, long v) {
        Entry e = archive.find(entry);
        if (e == null || what < 0 || what > 4) {
            return BAD;
        }
        if (what == 0) {
            return setAnti(e, v);
        }
        switch (what) {
            case 1:
                e.giveTime(v);
                break;
            case 2:
                e.timed = false;
                break;
            case 3:
                e.giveAttributes((int) v);
                break;
            default:
                e.attributed = false;
                break;
        }
        return 1;
    }

    private static int setAnti(Entry e, long v) {
        if (v != 0 && v != 1) {
            return BAD;
        }
        if (v == 1 && e.size > 0) {
            return STATE;
        }
        e.anti = v == 1;
        return 1;
    }

    public int write() {
        if (!archive.isReady()) {
            return STATE;
        }
        if (archive.hasOverfullBlock()) {
            return FULL;
        }
        writer.build(archive, spare);
        if (spare.overfull) {
            return FULL;
        }
        Tape before = tape;
        tape = spare;
        spare = before;
        return tape.length;
    }

    public int read() {
        try {
            reader.takeTape(tape, draft);
        } catch (IllegalStateException e) {
            return -10 - reader.cursor.place;
        }
        reader.unpackBlocks(tape, draft, spare);
        Archive before = archive;
        archive = draft;
        draft = before;
        return archive.count;
    }

    public int fault() {
        return reader.cursor.fault;
    }

    public int of(int entry, int what) {
        Entry e = archive.find(entry);
        if (e == null) {
            return BAD;
        }
        switch (what) {
            case 0: return e.kind;
            case 1: return e.size;
            case 2: return e.home;
            case 3: return e.unitCount;
            case 4: return oneIf(e.anti);
            case 5: return oneIf(e.timed);
            case 6: return oneIf(e.attributed);
            case 7: return oneIf(e.wrong);
            case 8: return oneIf(archive.isLost(e));
            default: return BAD;
        }
    }

    private static int oneIf(boolean b) {
        return b ? 1 : 0;
    }

    public long number(int entry, int what) {
        Entry e = archive.find(entry);
        if (e == null) {
            return 0;
        }
        if (what == 0) {
            return e.timed ? e.time : 0;
        }
        if (what == 1) {
            return e.attributed ? e.attributes : 0;
        }
        if (what == 2 && !archive.isLost(e)) {
            return checkOf(e.bytes, 0, e.size) & 0xFFFFFFFFL;
        }
        return 0;
    }

    public int at(int entry, int part, int i) {
        Entry e = archive.find(entry);
        if (e == null || (part != 0 && part != 1)) {
            return BAD;
        }
        if (part == 0) {
            return i >= 0 && i < e.unitCount ? e.units[i] : NONE;
        }
        if (archive.isLost(e) || i < 0 || i >= e.size) {
            return NONE;
        }
        return e.bytes[i] & 255;
    }

    public int coderAt(int block, int i) {
        Block b = archive.findBlock(block);
        if (b == null) {
            return BAD;
        }
        if (!b.known) {
            return STATE;
        }
        if (i == NONE) {
            return b.coderCount;
        }
        if (i < 0 || i >= b.coderCount) {
            return NONE;
        }
        return b.kinds[i] + 4 * b.distances[i];
    }

    public int peek(long i) throws ArrayIndexOutOfBoundsException {
        if (!tape.holds(i)) {
            throw new ArrayIndexOutOfBoundsException("the tape has no such byte");
        }
        return tape.bytes[(int) i] & 255;
    }

    public int poke(long i, int v) throws ArrayIndexOutOfBoundsException, IllegalArgumentException {
        if (!tape.holds(i)) {
            throw new ArrayIndexOutOfBoundsException("the tape has no such byte");
        }
        if (v < 0 || v > 255) {
            throw new IllegalArgumentException("a byte is 0 to 255");
        }
        int before = tape.bytes[(int) i] & 255;
        tape.bytes[(int) i] = (byte) v;
        return before;
    }

    public int type(long w, int n) {
        if (n < 0 || n > 8) {
            return BAD;
        }
        if (tape.length + n > TAPE_LIMIT) {
            return FULL;
        }
        if (n == 0) {
            tape.empty();
        }
        for (int k = n - 1; k >= 0; k--) {
            tape.addByte((int) (w >>> (8 * k)));
        }
        return tape.length;
    }

    public int cut(int n) {
        if (n < 0 || n > tape.length) {
            return BAD;
        }
        tape.length = n;
        return n;
    }

    public int seal(int what) {
        if (what != 0 && what != 1) {
            return BAD;
        }
        if (tape.length < HEAD || (what == 1 && !tape.hasToldLength())) {
            return STATE;
        }
        if (what == 1) {
            tape.sealHeader();
        }
        tape.sealHead();
        return 1;
    }

    public int count(int what) {
        if (what == 0) {
            return archive.count;
        }
        return what == 1 ? tape.length : BAD;
    }

    public int clear() {
        int before = archive.count;
        archive.empty();
        return before;
    }

    /** THE CHECK of the bytes of a row from one place up to another. */
    private static int checkOf(byte[] row, int from, int to) {
        int c = -1;
        for (int i = Math.max(from, 0); i < to && i < row.length; i++) {
            c ^= row[i] & 255;
            c = (c >>> 4) ^ CHECK_STEPS[c & 15];
            c = (c >>> 4) ^ CHECK_STEPS[c & 15];
        }
        return ~c;
    }

    /** How many bytes a ROW OF BITS has. */
    private static int bytesForBits(int bits) {
        return (bits + 7) >> 3;
    }

    /** A FILE or a DIRECTORY. */
    private static final class Entry {
        final char[] units = new char[NAME_LIMIT];
        int unitCount;
        byte[] bytes = new byte[0];
        int size;
        int kind;
        int home;
        boolean anti;
        boolean timed;
        long time;
        boolean attributed;
        int attributes;
        int toldCheck;
        boolean wrong;

        void begin(int newKind) {
            kind = newKind;
            unitCount = 0;
            size = 0;
            home = 0;
            anti = false;
            timed = false;
            attributed = false;
            toldCheck = 0;
            wrong = false;
        }

        void addUnit(char c) {
            if (unitCount < units.length) {
                units[unitCount] = c;
                unitCount++;
            }
        }

        void giveTime(long v) {
            timed = true;
            time = v;
        }

        void giveAttributes(int v) {
            attributed = true;
            attributes = v;
        }

        void addBytes(long w, int n) {
            makeRoom(size + n);
            for (int k = n - 1; k >= 0 && size < bytes.length; k--) {
                bytes[size] = (byte) (w >>> (8 * k));
                size++;
            }
        }

        /** The bytes of a row from a place on become the BYTES, as many as the SIZE tells. */
        void takeBytes(byte[] row, int from) {
            makeRoom(size);
            for (int i = 0; i < size && i < bytes.length && from + i < row.length; i++) {
                bytes[i] = row[from + i];
            }
            wrong = checkOf(bytes, 0, size) != toldCheck;
        }

        /**
         * Grows by doubling, so that many reads of ever longer files do not make a row each. What was there is not
         * kept: the first row has room for all that can be put, and a read brings all of its bytes.
         */
        private void makeRoom(int needed) {
            if (needed <= bytes.length) {
                return;
            }
            int room = PUT_LIMIT;
            for (int i = 0; i < 8 && room < needed; i++) {
                room *= 2;
            }
            bytes = new byte[room];
        }
    }

    /** The CODERS of a BLOCK, from the outermost. */
    private static final class Block {
        final int[] kinds = new int[CODER_LIMIT];
        final int[] distances = new int[CODER_LIMIT];
        int coderCount;
        boolean known = true;

        void begin() {
            coderCount = 0;
            known = true;
        }

        void addCoder(int kind, int d) {
            if (coderCount < CODER_LIMIT) {
                kinds[coderCount] = kind;
                distances[coderCount] = kind == DELTA ? d : 0;
                coderCount++;
            }
        }

        void pack(byte[] row, int from, int to) {
            for (int c = 0; c < coderCount; c++) {
                if (kinds[c] == DELTA) {
                    packDelta(row, from, to, distances[c]);
                } else {
                    turnGroups(row, from, to, groupOf(kinds[c]));
                }
            }
        }

        void unpack(byte[] row, int from, int to) {
            for (int c = coderCount - 1; c >= 0; c--) {
                if (kinds[c] == DELTA) {
                    unpackDelta(row, from, to, distances[c]);
                } else {
                    turnGroups(row, from, to, groupOf(kinds[c]));
                }
            }
        }

        private static int groupOf(int kind) {
            return kind == SWAP ? 2 : kind == TURN ? 4 : 1;
        }

        /** From the last byte on, so that each finds the one ahead of it not packed yet. */
        private static void packDelta(byte[] row, int from, int to, int d) {
            for (int i = to - 1; i >= from + d; i--) {
                row[i] = (byte) (row[i] - row[i - d]);
            }
        }

        private static void unpackDelta(byte[] row, int from, int to, int d) {
            for (int i = from + d; i < to; i++) {
                row[i] = (byte) (row[i] + row[i - d]);
            }
        }

        private static void turnGroups(byte[] row, int from, int to, int group) {
            if (group < 2) {
                return;
            }
            for (int start = from; start + group <= to; start += group) {
                for (int low = start, high = start + group - 1; low < high; low++, high--) {
                    byte kept = row[low];
                    row[low] = row[high];
                    row[high] = kept;
                }
            }
        }
    }

    /** ENTRIES, and the CODERS of the BLOCKS that they stand in. */
    private static final class Archive {
        final Entry[] entries = new Entry[ENTRY_LIMIT];
        int count;
        final Block[] blocks = new Block[BLOCK_LIMIT];

        Archive() {
            for (int i = 0; i < ENTRY_LIMIT; i++) {
                entries[i] = new Entry();
            }
            for (int b = 0; b < BLOCK_LIMIT; b++) {
                blocks[b] = new Block();
            }
        }

        void empty() {
            count = 0;
            for (int b = 0; b < BLOCK_LIMIT; b++) {
                blocks[b].begin();
            }
        }

        void addEntry(int kind) {
            if (count < ENTRY_LIMIT) {
                entries[count].begin(kind);
                count++;
            }
        }

        Entry find(int i) {
            return i >= 0 && i < count ? entries[i] : null;
        }

        Block findBlock(int b) {
            return b >= 0 && b < BLOCK_LIMIT ? blocks[b] : null;
        }

        boolean isKnown(int b) {
            return b >= 0 && b < BLOCK_LIMIT && blocks[b].known;
        }

        /** Whether it has a SIZE, but no BYTES. */
        boolean isLost(Entry e) {
            return e.size > 0 && !isKnown(e.home);
        }

        boolean isReady() {
            for (int i = 0; i < count; i++) {
                if (entries[i].unitCount == 0 || isLost(entries[i])) {
                    return false;
                }
            }
            return true;
        }

        int bytesOf(int b) {
            int sum = 0;
            for (int i = 0; i < count; i++) {
                if (entries[i].home == b) {
                    sum += entries[i].size;
                }
            }
            return sum;
        }

        int filesOf(int b) {
            int files = 0;
            for (int i = 0; i < count; i++) {
                if (entries[i].home == b && entries[i].size > 0) {
                    files++;
                }
            }
            return files;
        }

        boolean hasOverfullBlock() {
            for (int b = 0; b < BLOCK_LIMIT; b++) {
                if (bytesOf(b) > BLOCK_BYTES) {
                    return true;
                }
            }
            return false;
        }
    }

    /** THE TAPE. */
    private static final class Tape {
        final byte[] bytes = new byte[TAPE_LIMIT];
        int length;
        boolean overfull;

        void empty() {
            length = 0;
            overfull = false;
        }

        boolean holds(long i) {
            return i >= 0 && i < length;
        }

        void addByte(int v) {
            if (length >= TAPE_LIMIT) {
                overfull = true;
                return;
            }
            bytes[length] = (byte) v;
            length++;
        }

        void addBytes(byte[] row, int n) {
            for (int i = 0; i < n && i < row.length; i++) {
                addByte(row[i]);
            }
        }

        void addLittle(long v, int n) {
            for (int k = 0; k < n; k++) {
                addByte((int) (v >>> (8 * k)));
            }
        }

        void addNumber(long v) {
            int behind = 0;
            while (behind < 8 && (v >>> (7 * (behind + 1))) != 0) {
                behind++;
            }
            int above = behind < 8 ? (int) (v >>> (8 * behind)) : 0;
            addByte((0xFF00 >> behind) | above);
            for (int k = 0; k < behind; k++) {
                addByte((int) (v >>> (8 * k)));
            }
        }

        void addBits(boolean[] row, int bits) {
            for (int i = 0; i < bits; i += 8) {
                int v = 0;
                for (int j = i; j < i + 8; j++) {
                    boolean on = j < bits && j < row.length && row[j];
                    v = 2 * v + (on ? 1 : 0);
                }
                addByte(v);
            }
        }

        void setLittle(int from, long v, int n) {
            for (int k = 0; k < n; k++) {
                if (holds(from + k)) {
                    bytes[from + k] = (byte) (v >>> (8 * k));
                }
            }
        }

        long littleAt(int from, int n) {
            long v = 0;
            for (int k = 0; k < n; k++) {
                if (holds(from + k)) {
                    v |= (bytes[from + k] & 255L) << (8 * k);
                }
            }
            return v;
        }

        /** Each is looked at alone first: together they could run over. */
        boolean hasToldLength() {
            long offset = littleAt(OFFSET_AT, 8);
            long size = littleAt(SIZE_AT, 8);
            return offset >= 0 && offset <= length && size >= 0 && size <= length && HEAD + offset + size == length;
        }

        int headCheck() {
            return checkOf(bytes, OFFSET_AT, HEAD);
        }

        /** Only of a tape that has its told length. */
        int headerCheck() {
            return checkOf(bytes, HEAD + (int) littleAt(OFFSET_AT, 8), length);
        }

        void sealHead() {
            setLittle(HEAD_CHECK_AT, headCheck(), 4);
        }

        void sealHeader() {
            setLittle(HEADER_CHECK_AT, headerCheck(), 4);
        }
    }

    /** TO WRITE. */
    private static final class TapeWriter {
        private final Entry[] ordered = new Entry[ENTRY_LIMIT];
        private final boolean[] flags = new boolean[ENTRY_LIMIT];
        private Archive archive;
        private Tape out;
        private int count;
        private int withBytes;
        private int blockCount;

        void build(Archive from, Tape to) {
            archive = from;
            out = to;
            out.empty();
            for (int i = 0; i < HEAD; i++) {
                out.addByte(i < SIGNATURE.length ? SIGNATURE[i] : 0);
            }
            if (archive.count == 0) {
                out.sealHead();
                return;
            }
            arrange();
            addPackedBlocks();
            int start = out.length;
            out.addByte(HEADER);
            if (withBytes > 0) {
                out.addByte(STREAMS);
                addPackedSizes();
                addFolders();
                addFiles();
                out.addByte(END);
            }
            out.addByte(ENTRIES);
            addEntries();
            out.addByte(END);
            out.setLittle(OFFSET_AT, start - HEAD, 8);
            out.setLittle(SIZE_AT, out.length - start, 8);
            out.sealHeader();
            out.sealHead();
        }

        private void arrange() {
            count = 0;
            blockCount = 0;
            for (int b = 0; b < BLOCK_LIMIT; b++) {
                int before = count;
                for (int i = 0; i < archive.count; i++) {
                    Entry e = archive.entries[i];
                    if (e.size > 0 && e.home == b) {
                        append(e);
                    }
                }
                blockCount += count > before ? 1 : 0;
            }
            withBytes = count;
            for (int i = 0; i < archive.count; i++) {
                if (archive.entries[i].size == 0) {
                    append(archive.entries[i]);
                }
            }
        }

        private void append(Entry e) {
            if (count < ENTRY_LIMIT) {
                ordered[count] = e;
                count++;
            }
        }

        private void addPackedBlocks() {
            for (int b = 0; b < BLOCK_LIMIT; b++) {
                int start = out.length;
                for (int i = 0; i < withBytes; i++) {
                    if (ordered[i].home == b) {
                        out.addBytes(ordered[i].bytes, ordered[i].size);
                    }
                }
                archive.blocks[b].pack(out.bytes, start, out.length);
            }
        }

        private void addPackedSizes() {
            out.addByte(PACKS);
            out.addNumber(0);
            out.addNumber(blockCount);
            out.addByte(SIZES);
            for (int b = 0; b < BLOCK_LIMIT; b++) {
                int size = archive.bytesOf(b);
                if (size > 0) {
                    out.addNumber(size);
                }
            }
            out.addByte(END);
        }

        private void addFolders() {
            out.addByte(UNPACKS);
            out.addByte(FOLDERS);
            out.addNumber(blockCount);
            out.addByte(0);
            for (int b = 0; b < BLOCK_LIMIT; b++) {
                if (archive.bytesOf(b) > 0) {
                    addFolder(archive.blocks[b]);
                }
            }
            out.addByte(GIVEN_SIZES);
            for (int b = 0; b < BLOCK_LIMIT; b++) {
                int size = archive.bytesOf(b);
                int coders = Math.max(1, archive.blocks[b].coderCount);
                for (int c = 0; c < coders && size > 0; c++) {
                    out.addNumber(size);
                }
            }
            out.addByte(END);
        }

        private void addFolder(Block block) {
            int coders = Math.max(1, block.coderCount);
            out.addNumber(coders);
            for (int c = 0; c < coders; c++) {
                if (c < block.coderCount) {
                    addCoderForm(block.kinds[c], block.distances[c]);
                } else {
                    addCoderForm(COPY, 0);
                }
            }
            for (int c = 1; c < coders; c++) {
                out.addNumber(c - 1);
                out.addNumber(c);
            }
        }

        private void addCoderForm(int kind, int d) {
            if (kind == DELTA) {
                out.addByte(1 + WITH_PROPERTIES);
                out.addByte(DELTA_ID);
                out.addNumber(1);
                out.addByte(d - 1);
            } else if (kind == COPY) {
                out.addByte(1);
                out.addByte(COPY_ID);
            } else {
                int id = kind == SWAP ? SWAP_ID : TURN_ID;
                out.addByte(3);
                out.addByte(id >> 16);
                out.addByte(id >> 8);
                out.addByte(id);
            }
        }

        private void addFiles() {
            out.addByte(PARTS);
            // Each BLOCK that is written has a FILE: another count is a higher one.
            if (withBytes > blockCount) {
                addFileCounts();
                addFileSizes();
            }
            out.addByte(CHECKS);
            out.addByte(1);
            for (int i = 0; i < withBytes; i++) {
                out.addLittle(checkOf(ordered[i].bytes, 0, ordered[i].size), 4);
            }
            out.addByte(END);
        }

        private void addFileCounts() {
            out.addByte(FILE_COUNTS);
            for (int b = 0; b < BLOCK_LIMIT; b++) {
                int files = archive.filesOf(b);
                if (files > 0) {
                    out.addNumber(files);
                }
            }
        }

        private void addFileSizes() {
            out.addByte(SIZES);
            for (int i = 0; i + 1 < withBytes; i++) {
                if (ordered[i].home == ordered[i + 1].home) {
                    out.addNumber(ordered[i].size);
                }
            }
        }

        private void addEntries() {
            out.addNumber(count);
            if (withBytes < count) {
                addEmptyRows();
            }
            addNames();
            for (int i = 0; i < count; i++) {
                flags[i] = ordered[i].timed;
            }
            addValues(TIMES, 8);
            for (int i = 0; i < count; i++) {
                flags[i] = ordered[i].attributed;
            }
            addValues(ATTRIBUTES, 4);
            out.addByte(END);
        }

        private void addEmptyRows() {
            for (int i = 0; i < count; i++) {
                flags[i] = i >= withBytes;
            }
            addRow(NO_BYTES, count);
            int empties = count - withBytes;
            for (int i = 0; i < empties; i++) {
                flags[i] = ordered[withBytes + i].kind == FILE;
            }
            addRow(NO_BYTES_FILES, empties);
            for (int i = 0; i < empties; i++) {
                flags[i] = ordered[withBytes + i].anti;
            }
            addRow(ANTIS, empties);
        }

        /** The flags as a part of their own, if one is up. */
        private void addRow(int tag, int bits) {
            if (countFlags(bits) > 0) {
                out.addByte(tag);
                out.addNumber(bytesForBits(bits));
                out.addBits(flags, bits);
            }
        }

        private int countFlags(int bits) {
            int up = 0;
            for (int i = 0; i < bits && i < flags.length; i++) {
                up += flags[i] ? 1 : 0;
            }
            return up;
        }

        private void addNames() {
            int units = 0;
            for (int i = 0; i < count; i++) {
                units += ordered[i].unitCount + 1;
            }
            out.addByte(NAMES);
            out.addNumber(1 + 2 * units);
            out.addByte(0);
            for (int i = 0; i < count; i++) {
                for (int k = 0; k < ordered[i].unitCount; k++) {
                    out.addLittle(ordered[i].units[k], 2);
                }
                out.addLittle(0, 2);
            }
        }

        /** TIMES or ATTRIBUTES of those whose flags are up. */
        private void addValues(int tag, int width) {
            int having = countFlags(count);
            if (having == 0) {
                return;
            }
            int rowBytes = having == count ? 0 : bytesForBits(count);
            out.addByte(tag);
            out.addNumber(2 + rowBytes + having * width);
            out.addByte(having == count ? 1 : 0);
            if (having < count) {
                out.addBits(flags, count);
            }
            out.addByte(0);
            for (int i = 0; i < count; i++) {
                if (flags[i]) {
                    out.addLittle(tag == TIMES ? ordered[i].time : ordered[i].attributes, width);
                }
            }
        }
    }

    /** Takes THE TAPE byte by byte; a FAULT is kept here with its PLACE, and ends the reading by an exception. */
    private static final class Cursor {
        private byte[] bytes = new byte[0];
        private int length;
        int position;
        int fault;
        int place;

        void begin(Tape tape) {
            bytes = tape.bytes;
            length = Math.min(tape.length, bytes.length);
            position = 0;
            fault = 0;
            place = 0;
        }

        void fail(int newFault, int newPlace) {
            fault = newFault;
            place = newPlace;
            throw new IllegalStateException("a fault of the tape");
        }

        /** A FAULT at the byte that was taken last. */
        void failAtLast() {
            fail(BYTE_FAULT, position - 1);
        }

        void needHead() {
            if (length < HEAD) {
                fail(SHORT_FAULT, length);
            }
        }

        void needEnd() {
            if (position < length) {
                fail(BEHIND_FAULT, position);
            }
        }

        int takeByte() {
            if (position < 0 || position >= length) {
                fault = SHORT_FAULT;
                place = length;
                throw new IllegalStateException("the tape ends too early");
            }
            int v = bytes[position] & 255;
            position++;
            return v;
        }

        void expect(int v) {
            if (takeByte() != v) {
                failAtLast();
            }
        }

        long takeLittle(int n) {
            long v = 0;
            for (int k = 0; k < n; k++) {
                v |= (long) takeByte() << (8 * k);
            }
            return v;
        }

        /** A NUMBER that must be from least to most. */
        long takeNumber(long least, long most) {
            int start = position;
            int first = takeByte();
            int behind = 0;
            while (behind < 8 && (first & (128 >> behind)) != 0) {
                behind++;
            }
            long v = takeLittle(behind);
            if (behind < 7) {
                v |= (long) (first & (127 >> behind)) << (8 * behind);
            }
            if (behind > 0 && (v >>> (7 * behind)) == 0) {
                fail(BYTE_FAULT, start);
            }
            if (v < least || v > most) {
                fail(NUMBER_FAULT, start);
            }
            return v;
        }

        /** A ROW OF BITS: how many are 1. */
        int takeBits(boolean[] row, int bits) {
            int ones = 0;
            for (int i = 0; i < bits; i += 8) {
                int v = takeByte();
                for (int j = 0; j < 8; j++) {
                    boolean on = ((v >> (7 - j)) & 1) == 1;
                    if (i + j < bits && i + j < row.length) {
                        row[i + j] = on;
                        ones += on ? 1 : 0;
                    } else if (on) {
                        fail(BYTE_FAULT, position - 1);
                    }
                }
            }
            return ones;
        }
    }

    /** STREAMS, as they are read. */
    private static final class StreamsReader {
        private static final int UNKNOWN = -1;

        private final Cursor cursor;
        int blockCount;
        final int[] packed = new int[BLOCK_LIMIT];
        private final int[] coderCounts = new int[BLOCK_LIMIT];
        private final int[] outermost = new int[BLOCK_LIMIT];
        private final int[] given = new int[BLOCK_LIMIT];
        private final int[] fileCounts = new int[BLOCK_LIMIT];
        int files;
        final int[] homes = new int[ENTRY_LIMIT];
        final int[] sizes = new int[ENTRY_LIMIT];
        final int[] checks = new int[ENTRY_LIMIT];
        private final int[] kinds = new int[CODER_LIMIT];
        private final int[] distances = new int[CODER_LIMIT];
        private final int[] takesFrom = new int[CODER_LIMIT];
        private final boolean[] gives = new boolean[CODER_LIMIT];

        StreamsReader(Cursor shared) {
            cursor = shared;
        }

        void begin() {
            blockCount = 0;
            files = 0;
        }

        void takePackedSizes(long offset) {
            cursor.expect(PACKS);
            cursor.takeNumber(0, 0);
            blockCount = (int) cursor.takeNumber(1, BLOCK_LIMIT);
            cursor.expect(SIZES);
            long sum = 0;
            for (int b = 0; b < blockCount; b++) {
                int start = cursor.position;
                packed[b] = (int) cursor.takeNumber(1, BLOCK_BYTES);
                sum += packed[b];
                if (b == blockCount - 1 && sum != offset) {
                    cursor.fail(NUMBER_FAULT, start);
                }
            }
            cursor.expect(END);
        }

        void takeFolders(Archive draft) {
            cursor.expect(UNPACKS);
            cursor.expect(FOLDERS);
            cursor.takeNumber(blockCount, blockCount);
            cursor.expect(0);
            for (int b = 0; b < blockCount; b++) {
                int coders = (int) cursor.takeNumber(1, CODER_LIMIT);
                for (int c = 0; c < coders; c++) {
                    takeCoder(c);
                }
                takeBonds(coders);
                keepFolder(b, coders, draft.blocks[b]);
            }
            cursor.expect(GIVEN_SIZES);
            for (int b = 0; b < blockCount; b++) {
                takeGivenSizes(b, draft.blocks[b].known);
            }
            cursor.expect(END);
        }

        /** The CODERS go from the outermost along the BONDS, wherever they stand in the FOLDER. */
        private void keepFolder(int b, int coders, Block block) {
            coderCounts[b] = coders;
            outermost[b] = findOutermost(coders);
            int c = outermost[b];
            for (int k = 0; k < coders && c >= 0 && c < coders; k++) {
                if (kinds[c] == UNKNOWN) {
                    block.known = false;
                }
                block.addCoder(kinds[c], distances[c]);
                c = takesFrom[c];
            }
        }

        private void takeCoder(int c) {
            int form = cursor.takeByte();
            int idBytes = form & ~WITH_PROPERTIES;
            if (idBytes < 1 || idBytes > ID_LIMIT) {
                cursor.failAtLast();
            }
            int id = 0;
            for (int k = 0; k < idBytes; k++) {
                id = (id << 8) | cursor.takeByte();
            }
            int properties = 0;
            int property = 0;
            if (form != idBytes) {
                properties = (int) cursor.takeNumber(1, PROPERTY_LIMIT);
                for (int k = 0; k < properties; k++) {
                    property = cursor.takeByte();
                }
            }
            kinds[c] = kindOf(idBytes, id, properties);
            distances[c] = property + 1;
        }

        private static int kindOf(int idBytes, int id, int properties) {
            if (idBytes == 1 && id == DELTA_ID && properties == 1) {
                return DELTA;
            }
            if (properties > 0) {
                return UNKNOWN;
            }
            if (idBytes == 1 && id == COPY_ID) {
                return COPY;
            }
            if (idBytes == 3 && id == SWAP_ID) {
                return SWAP;
            }
            if (idBytes == 3 && id == TURN_ID) {
                return TURN;
            }
            return UNKNOWN;
        }

        private void takeBonds(int coders) {
            for (int c = 0; c < CODER_LIMIT; c++) {
                takesFrom[c] = NONE;
                gives[c] = false;
            }
            for (int k = 1; k < coders; k++) {
                int start = cursor.position;
                int taker = (int) cursor.takeNumber(0, coders - 1);
                int giver = (int) cursor.takeNumber(0, coders - 1);
                if (takesFrom[taker] != NONE || gives[giver] || leadsTo(giver, taker)) {
                    cursor.fail(BOND_FAULT, start);
                }
                takesFrom[taker] = giver;
                gives[giver] = true;
            }
        }

        private boolean leadsTo(int from, int to) {
            int c = from;
            for (int k = 0; k < CODER_LIMIT && c >= 0 && c < CODER_LIMIT; k++) {
                if (c == to) {
                    return true;
                }
                c = takesFrom[c];
            }
            return false;
        }

        private int findOutermost(int coders) {
            for (int c = 0; c < coders; c++) {
                if (!gives[c]) {
                    return c;
                }
            }
            return 0;
        }

        private void takeGivenSizes(int b, boolean known) {
            int least = known ? packed[b] : 1;
            int most = known ? packed[b] : BLOCK_BYTES;
            for (int c = 0; c < coderCounts[b]; c++) {
                int size = (int) cursor.takeNumber(least, most);
                if (c == outermost[b]) {
                    given[b] = size;
                }
            }
        }

        void takeFiles() {
            cursor.expect(PARTS);
            int tag = cursor.takeByte();
            if (tag == FILE_COUNTS) {
                takeFileCounts();
                cursor.expect(SIZES);
                takeFileSizes();
                tag = cursor.takeByte();
            } else {
                for (int b = 0; b < blockCount; b++) {
                    fileCounts[b] = 1;
                }
                takeFileSizes();
            }
            if (tag != CHECKS) {
                cursor.failAtLast();
            }
            cursor.expect(1);
            for (int f = 0; f < files; f++) {
                checks[f] = (int) cursor.takeLittle(4);
            }
            cursor.expect(END);
        }

        private void takeFileCounts() {
            int tagPlace = cursor.position - 1;
            int sum = 0;
            for (int b = 0; b < blockCount; b++) {
                fileCounts[b] = (int) cursor.takeNumber(1, ENTRY_LIMIT - sum);
                sum += fileCounts[b];
            }
            if (sum == blockCount) {
                cursor.fail(BYTE_FAULT, tagPlace);
            }
        }

        private void takeFileSizes() {
            for (int b = 0; b < blockCount; b++) {
                int left = given[b];
                for (int behind = fileCounts[b] - 1; behind > 0; behind--) {
                    int size = (int) cursor.takeNumber(1, left - behind);
                    addFile(b, size);
                    left -= size;
                }
                addFile(b, left);
            }
        }

        private void addFile(int b, int size) {
            if (files < ENTRY_LIMIT) {
                homes[files] = b;
                sizes[files] = size;
                files++;
            }
        }
    }

    /** ENTRIES, as they are read. */
    private static final class EntriesReader {
        private final Cursor cursor;
        private final boolean[] flags = new boolean[ENTRY_LIMIT];

        EntriesReader(Cursor shared) {
            cursor = shared;
        }

        /** How many there are and which have no BYTES, up to the byte that tells of NAMES. */
        void takeEntries(StreamsReader streams, Archive draft) {
            int n = (int) cursor.takeNumber(Math.max(1, streams.files), ENTRY_LIMIT);
            int empties = n - streams.files;
            for (int i = 0; i < ENTRY_LIMIT; i++) {
                flags[i] = false;
            }
            int tag = cursor.takeByte();
            if (empties > 0) {
                if (tag != NO_BYTES) {
                    cursor.failAtLast();
                }
                takeEmptyRow(n, empties);
                tag = cursor.takeByte();
            }
            layOut(n, streams, draft);
            if (empties > 0 && tag == NO_BYTES_FILES) {
                takeFlags(empties);
                markEmpties(draft, tag);
                tag = cursor.takeByte();
            }
            if (empties > 0 && tag == ANTIS) {
                takeFlags(empties);
                markEmpties(draft, tag);
                tag = cursor.takeByte();
            }
            if (tag != NAMES) {
                cursor.failAtLast();
            }
        }

        private void takeEmptyRow(int n, int empties) {
            int start = cursor.position;
            cursor.takeNumber(bytesForBits(n), bytesForBits(n));
            if (cursor.takeBits(flags, n) != empties) {
                cursor.fail(NUMBER_FAULT, start);
            }
        }

        /** ENTRIES with BYTES in the order of STREAMS, the others where their flags are up. */
        private void layOut(int n, StreamsReader streams, Archive draft) {
            int f = 0;
            for (int i = 0; i < n && i < ENTRY_LIMIT; i++) {
                draft.addEntry(flags[i] ? DIRECTORY : FILE);
                if (!flags[i] && f < streams.files) {
                    Entry e = draft.entries[i];
                    e.home = streams.homes[f];
                    e.size = streams.sizes[f];
                    e.toldCheck = streams.checks[f];
                    f++;
                }
            }
        }

        /** A row that tells of those without BYTES, and needs to: else the byte ahead of it may not stand there. */
        private void takeFlags(int empties) {
            int tagPlace = cursor.position - 1;
            cursor.takeNumber(bytesForBits(empties), bytesForBits(empties));
            if (cursor.takeBits(flags, empties) == 0) {
                cursor.fail(BYTE_FAULT, tagPlace);
            }
        }

        private void markEmpties(Archive draft, int tag) {
            int k = 0;
            for (int i = 0; i < draft.count && k < ENTRY_LIMIT; i++) {
                Entry e = draft.entries[i];
                if (e.size > 0) {
                    continue;
                }
                if (tag == NO_BYTES_FILES) {
                    e.kind = flags[k] ? FILE : DIRECTORY;
                } else {
                    e.anti = flags[k];
                }
                k++;
            }
        }

        void takeNames(Archive draft) {
            int start = cursor.position;
            long told = cursor.takeNumber(0, Long.MAX_VALUE);
            int behind = cursor.position;
            cursor.expect(0);
            for (int i = 0; i < draft.count; i++) {
                takeName(draft.entries[i]);
            }
            if (cursor.position - behind != told) {
                cursor.fail(NUMBER_FAULT, start);
            }
        }

        private void takeName(Entry e) {
            int start = cursor.position;
            long unit = cursor.takeLittle(2);
            for (int k = 0; k < NAME_LIMIT && unit != 0; k++) {
                e.addUnit((char) unit);
                unit = cursor.takeLittle(2);
            }
            if (unit != 0 || e.unitCount == 0) {
                cursor.fail(NAME_FAULT, start);
            }
        }

        void takeTimesAndAttributes(Archive draft) {
            int tag = cursor.takeByte();
            if (tag == TIMES) {
                takeValues(draft, TIMES, 8);
                tag = cursor.takeByte();
            }
            if (tag == ATTRIBUTES) {
                takeValues(draft, ATTRIBUTES, 4);
                tag = cursor.takeByte();
            }
            if (tag != END) {
                cursor.failAtLast();
            }
        }

        private void takeValues(Archive draft, int tag, int width) {
            int tagPlace = cursor.position - 1;
            int start = cursor.position;
            long told = cursor.takeNumber(0, Long.MAX_VALUE);
            int behind = cursor.position;
            takeWhichHave(draft.count, tagPlace);
            cursor.expect(0);
            for (int i = 0; i < draft.count; i++) {
                if (flags[i]) {
                    long v = cursor.takeLittle(width);
                    if (tag == TIMES) {
                        draft.entries[i].giveTime(v);
                    } else {
                        draft.entries[i].giveAttributes((int) v);
                    }
                }
            }
            if (cursor.position - behind != told) {
                cursor.fail(NUMBER_FAULT, start);
            }
        }

        private void takeWhichHave(int n, int tagPlace) {
            int allPlace = cursor.position;
            int all = cursor.takeByte();
            if (all > 1) {
                cursor.failAtLast();
            }
            if (all == 1) {
                for (int i = 0; i < n && i < flags.length; i++) {
                    flags[i] = true;
                }
                return;
            }
            int ones = cursor.takeBits(flags, n);
            if (ones == 0) {
                cursor.fail(BYTE_FAULT, tagPlace);
            }
            if (ones == n) {
                cursor.fail(BYTE_FAULT, allPlace);
            }
        }
    }

    /** TO READ. */
    private static final class TapeReader {
        final Cursor cursor;
        private final StreamsReader streams;
        private final EntriesReader entries;

        TapeReader(Cursor shared, StreamsReader streamsReader, EntriesReader entriesReader) {
            cursor = shared;
            streams = streamsReader;
            entries = entriesReader;
        }

        void takeTape(Tape tape, Archive draft) {
            cursor.begin(tape);
            streams.begin();
            draft.empty();
            takeHead(tape);
            if (tape.littleAt(SIZE_AT, 8) == 0) {
                return;
            }
            long offset = tape.littleAt(OFFSET_AT, 8);
            cursor.position = HEAD + (int) offset;
            cursor.expect(HEADER);
            if (offset > 0) {
                cursor.expect(STREAMS);
                streams.takePackedSizes(offset);
                streams.takeFolders(draft);
                streams.takeFiles();
                cursor.expect(END);
            }
            cursor.expect(ENTRIES);
            entries.takeEntries(streams, draft);
            entries.takeNames(draft);
            entries.takeTimesAndAttributes(draft);
            cursor.expect(END);
            cursor.needEnd();
        }

        private void takeHead(Tape tape) {
            cursor.needHead();
            for (int i = 0; i < SIGNATURE.length; i++) {
                cursor.expect(SIGNATURE[i]);
            }
            if ((int) tape.littleAt(HEAD_CHECK_AT, 4) != tape.headCheck()) {
                cursor.fail(HEAD_CHECK_FAULT, HEAD_CHECK_AT);
            }
            int headerCheck = (int) tape.littleAt(HEADER_CHECK_AT, 4);
            if (!tape.hasToldLength()) {
                cursor.fail(NUMBER_FAULT, OFFSET_AT);
            }
            if (tape.littleAt(SIZE_AT, 8) == 0 && (tape.littleAt(OFFSET_AT, 8) != 0 || headerCheck != 0)) {
                cursor.fail(NUMBER_FAULT, OFFSET_AT);
            }
            if (headerCheck != tape.headerCheck()) {
                cursor.fail(HEADER_CHECK_FAULT, HEADER_CHECK_AT);
            }
        }

        /** After takeTape had no FAULT: the FILES get their BYTES, where somebody knows the BLOCK. */
        void unpackBlocks(Tape tape, Archive draft, Tape work) {
            int from = HEAD;
            for (int b = 0; b < streams.blockCount; b++) {
                int size = streams.packed[b];
                if (draft.blocks[b].known && from + size <= TAPE_LIMIT) {
                    System.arraycopy(tape.bytes, from, work.bytes, 0, size);
                    draft.blocks[b].unpack(work.bytes, 0, size);
                    handOut(b, draft, work);
                }
                from += size;
            }
        }

        private void handOut(int b, Archive draft, Tape work) {
            int from = 0;
            for (int i = 0; i < draft.count; i++) {
                Entry e = draft.entries[i];
                if (e.home == b && e.size > 0) {
                    e.takeBytes(work.bytes, from);
                    from += e.size;
                }
            }
        }
    }
}
