import java.util.Arrays;

/**
 * The boundaries of ======== 2 THE FORM and ======== 3 TO READ, as tapes are read: each sentence by a method of its own,
 * with the last tape that is read and the first one that has the FAULT. '!' stands ahead of the PLACE.
 */
public final class EdgeReadTest {
    private static final Due DUE = new Due();
    private static final SevenForms READS_ALL = new SevenForms();
    private static final String NAME = " 17 5 0 97 0 0 0 ";
    private static final String NAMES = " 17 9 0 97 0 0 0 98 0 0 0 ";
    private static final String ONE = "1 5 1 14 1 128 ";
    private static final String TWO = "1 5 2 14 1 192 ";
    private static final String PACKS = "1 4 6 0 1 9 2 0 ";
    private static final String FOLDERS = PACKS + "7 11 1 0 1 1 0 12 2 0 ";
    private static final String CHECK = "10 1 0 0 0 0 0 0 ";
    private static final String FILE = FOLDERS + "8 " + CHECK;

    public static void main(String[] args) {
        headShort();
        headBytes();
        headCheck();
        headLength();
        headNone();
        headerCheck();
        headOrder();
        numbersTooLong();
        numbersTooLarge();
        numbersInTheirPlaces();
        streamsOrNone();
        blocksOneToSix();
        packedOneTo2400();
        packedTogether();
        foldersAsBlocks();
        codersOneToThree();
        idsOneToFour();
        propertiesOneToFour();
        knownIds();
        bondsBelow();
        bondsTwice();
        bondsRing();
        givenKnown();
        givenUnknown();
        fileCounts();
        fileCountsNeedless();
        fileSizes();
        fileSizesNeedless();
        checksOfFour();
        entriesOneTo24();
        entriesNotBelowFiles();
        emptiesNeeded();
        emptiesLength();
        emptiesCount();
        bitsLeftOver();
        filesAndAntisNeeded();
        filesAndAntisLength();
        filesAndAntisOf24();
        namesOneToTwenty();
        namesLength();
        namesAsMany();
        valuesNeeded();
        valuesOfAll();
        valuesLength();
        endOfEntries();
        endOfHeader();
        oneByteLess();
        soonest();
        wrongChecks();
        DUE.end();
    }

    private static byte[] zeros(int n) {
        return new byte[n];
    }

    /** It is read, to what the words of the document give. */
    private static SevenForms read(int packed, byte[] header) {
        return readTape(Form.tape(zeros(packed), header));
    }

    private static SevenForms read(int packed, String header) {
        return read(packed, Form.parse(header));
    }

    private static SevenForms readTape(byte[] tape) {
        SevenForms x = new SevenForms();
        x.entry(1);
        x.coder(5, 1, 7);
        Form.type(x, tape);
        String due = Oracle.read(tape);
        int answer = x.read();
        DUE.is(told(tape) + ": fault", x.fault(), 0);
        DUE.is(told(tape) + ": read", answer, x.count(0));
        DUE.holds(told(tape) + ": got " + State.archive(x) + " due is " + due, due.equals(State.archive(x)));
        again(tape);
        return x;
    }

    /** One object reads all tapes, one after the other: nothing of an earlier one, right or wrong, is left. */
    private static void again(byte[] tape) {
        String before = State.archive(READS_ALL);
        Form.type(READS_ALL, tape);
        int answer = READS_ALL.read();
        String got = answer < 0 ? "FAULT " + READS_ALL.fault() + " at " + (-10 - answer) : State.archive(READS_ALL);
        String due = Oracle.read(tape);
        DUE.holds(told(tape) + ": again, got " + got + " due is " + due, due.equals(got));
        DUE.holds(told(tape) + ": again, as it was", answer >= 0 || before.equals(State.archive(READS_ALL)));
    }

    private static String told(byte[] row) {
        StringBuilder s = new StringBuilder();
        for (int i = 0; i < row.length && i < 300; i++) {
            s.append(row[i] & 255).append(' ');
        }
        return s.toString();
    }

    /** It has this FAULT at this PLACE, and all is as it was. */
    private static void faultAt(int fault, int place, byte[] tape) {
        SevenForms x = Samples.file(3);
        x.coder(5, 1, 7);
        Form.type(x, tape);
        String before = State.archive(x);
        DUE.is(told(tape) + ": read", x.read(), -10 - place);
        DUE.is(told(tape) + ": fault", x.fault(), fault);
        DUE.holds(told(tape) + ": all is as it was", before.equals(State.archive(x)));
        again(tape);
    }

    private static void fault(int fault, int packed, String header) {
        faultAt(fault, 32 + packed + Form.mark(header), Form.tape(zeros(packed), Form.parse(header)));
    }

    /** The tape with other bytes in its head, the CHECK at 8 made right again. */
    private static byte[] poked(byte[] tape, int... atAndValue) {
        byte[] row = tape.clone();
        for (int k = 0; k < atAndValue.length; k += 2) {
            row[atAndValue[k]] = (byte) atAndValue[k + 1];
        }
        byte[] check = new Form().little(Form.check(Arrays.copyOfRange(row, 12, 32)), 4).bytes();
        System.arraycopy(check, 0, row, 8, 4);
        return row;
    }

    private static byte[] one() {
        return Form.tape(zeros(0), Form.parse(ONE + NAME + "0 0"));
    }

    /** "32 bytes": "1 at the tape's length, where bytes must be that are not". */
    private static void headShort() {
        byte[] none = Form.tape(zeros(0), zeros(0));
        for (int n = 0; n < 32; n++) {
            faultAt(1, n, Arrays.copyOf(none, n));
        }
        readTape(none);
        faultAt(1, 31, zeros(31));
        faultAt(2, 0, zeros(32));
    }

    /** "the first eight": "2 at a byte that cannot stand there". */
    private static void headBytes() {
        for (int i = 0; i < 8; i++) {
            for (int by : new int[] {1, -1, 128}) {
                byte[] tape = one();
                tape[i] += by;
                faultAt(2, i, tape);
                tape[7] += i < 7 ? 1 : 0;
                faultAt(2, i, tape);
            }
        }
    }

    /** "the CHECK at 8": "3 at 8". */
    private static void headCheck() {
        for (int i = 8; i < 32; i++) {
            byte[] tape = one();
            tape[i] ^= 1;
            faultAt(3, 8, tape);
            tape[i] ^= 129;
            faultAt(3, 8, tape);
        }
        readTape(one());
    }

    /** "32, OFFSET and SIZE together are the tape's length": 5, "of LITTLE ones in the head at 12". */
    private static void headLength() {
        byte[] tape = Form.tape(zeros(2), Form.parse(FILE + "5 1" + NAME + "0 0"));
        int size = tape.length - 34;
        readTape(tape);
        faultAt(5, 12, Arrays.copyOf(tape, tape.length - 1));
        faultAt(5, 12, Arrays.copyOf(tape, tape.length + 1));
        faultAt(5, 12, poked(tape, 12, 1));
        faultAt(5, 12, poked(tape, 12, 3));
        faultAt(5, 12, poked(tape, 20, size - 1));
        faultAt(5, 12, poked(tape, 20, size + 1));
        faultAt(4, 28, poked(tape, 12, 1, 20, size + 1));
        faultAt(4, 28, poked(tape, 12, 3, 20, size - 1));
        for (int i = 13; i < 28; i++) {
            if (i != 20) {
                faultAt(5, 12, poked(tape, i, 1));
                faultAt(5, 12, poked(tape, i, 128));
                faultAt(5, 12, poked(tape, i, 255));
            }
        }
        // 2^64 - 1 and one more than both are; 2^63 and 2^63 and both.
        faultAt(5, 12, poked(tape, 12, 255, 13, 255, 14, 255, 15, 255, 16, 255, 17, 255, 18, 255, 19, 255, 20, size + 3));
        faultAt(5, 12, poked(tape, 19, 128, 27, 128));
        // 2^32 more: the lowest 32 bits alone would fit.
        faultAt(5, 12, poked(tape, 16, 1));
        faultAt(5, 12, poked(tape, 24, 1));
    }

    /** "(with SIZE 0 all three are 0)". */
    private static void headNone() {
        byte[] none = Form.tape(zeros(0), zeros(0));
        readTape(none);
        for (int i = 12; i < 32; i++) {
            faultAt(5, 12, poked(none, i, 1));
            faultAt(5, 12, poked(none, i, 128));
        }
        byte[] offset = poked(Arrays.copyOf(none, 33), 12, 1);
        faultAt(5, 12, offset);
        faultAt(5, 12, Arrays.copyOf(none, 33));
        byte[] size = poked(Arrays.copyOf(none, 33), 20, 1);
        faultAt(4, 28, size);
        faultAt(2, 32, Form.tape(zeros(0), zeros(1)));
    }

    /** "the CHECK of the header": "4 at 28". */
    private static void headerCheck() {
        for (int i = 28; i < 32; i++) {
            faultAt(4, 28, poked(one(), i, 1 ^ one()[i]));
        }
        for (int i = 32; i < one().length; i++) {
            faultAt(4, 28, poked(one(), i, 1 ^ one()[i]));
        }
        byte[] packed = Form.tape(zeros(2), Form.parse(FILE + "5 1" + NAME + "0 0"));
        readTape(packed);
        readTape(poked(packed, 32, 1));
        readTape(poked(packed, 33, 1));
        faultAt(4, 28, poked(packed, 34, 2));
    }

    /** "in this order: 32 bytes; the first eight; the CHECK at 8; .. length ..; the CHECK of the header; the header". */
    private static void headOrder() {
        byte[] all = Form.tape(zeros(0), Form.parse("2"));
        faultAt(2, 32, all);
        byte[] header = poked(all, 28, all[28] ^ 1);
        faultAt(4, 28, header);
        byte[] length = poked(header, 20, 2);
        faultAt(5, 12, length);
        byte[] check = length.clone();
        check[8] ^= 1;
        faultAt(3, 8, check);
        byte[] first = check.clone();
        first[7] ^= 1;
        faultAt(2, 7, first);
        faultAt(1, 31, Arrays.copyOf(first, 31));
    }

    /** "With as few bytes as can be": 2, "a NUMBER with too many bytes at its first"; each length's largest in one byte more. */
    private static void numbersTooLong() {
        for (int k = 1; k <= 8; k++) {
            for (long v : new long[] {0, 5, (1L << 7 * k) - 1}) {
                faultAt(2, 32 + 7, Form.tape(zeros(0), number17(v, k)));
            }
            faultAt(5, 32 + 7, Form.tape(zeros(0), number17(1L << 7 * k, k)));
        }
        read(0, number17(5, 0));
    }

    /** A header whose length of NAMES is this NUMBER with so many bytes behind its first. */
    private static byte[] number17(long v, int behind) {
        return new Form().addAll(Form.parse(ONE + "17")).number(v, behind).addAll(Form.parse("0 97 0 0 0 0 0")).bytes();
    }

    /** "NUMBERS (0 to 2^63 - 1)": each length's smallest and largest are read, and judged by what they are. */
    private static void numbersTooLarge() {
        for (int k = 0; k <= 8; k++) {
            long least = k == 0 ? 0 : 1L << 7 * k;
            long most = k == 8 ? Long.MAX_VALUE : (1L << 7 * (k + 1)) - 1;
            // The highest bit alone stands in the first byte, up to six bytes behind it.
            long highest = 1L << (k == 8 ? 62 : 7 * k + 6);
            for (long v : new long[] {least, least + 1, highest, most - 1, most}) {
                faultAt(5, 32 + 7, Form.tape(zeros(0), number17(v, k)));
                // A right NUMBER is judged behind the NAME that has no units, at 41 with no bytes behind its first.
                byte[] nameless = new Form().addAll(Form.parse(ONE + "17")).number(v, k).addAll(Form.parse("0 0 0 0 0")).bytes();
                faultAt(8, 32 + 9 + k, Form.tape(zeros(0), nameless));
            }
        }
        byte[] beyond = new Form().addAll(Form.parse(ONE + "17")).number(Long.MIN_VALUE, 8).addAll(Form.parse("0 0 0 0 0")).bytes();
        faultAt(5, 32 + 7, Form.tape(zeros(0), beyond));
        byte[] most = new Form().addAll(Form.parse(ONE + "17")).number(-1, 8).addAll(Form.parse("0 0 0 0 0")).bytes();
        faultAt(5, 32 + 7, Form.tape(zeros(0), most));
        faultAt(5, 32 + 7, Form.tape(zeros(0), number17(Long.MIN_VALUE, 8)));
        for (int k = 1; k <= 8; k++) {
            byte[] cut = Arrays.copyOf(number17(1L << 7 * k, k), 8 + k - 1);
            faultAt(1, 32 + cut.length, Form.tape(zeros(0), cut));
        }
    }

    /** Each NUMBER of the form, told as it is with one byte too many: 2 at its first byte. */
    private static void numbersInTheirPlaces() {
        String whole = "1 4 6 #0 #1 9 #3 0 7 11 #1 0 #2 33 3 #1 5 1 0 #0 #1 12 #3 #3 0 8 13 #2 9 #1 10 1 0 0 0 0 0 0 0 0 0 0"
            + " 5 #4 14 #1 48 15 #1 64 16 #1 128 17 #17 0 97 0 0 0 98 0 0 0 99 0 0 0 100 0 0 0"
            + " 20 #11 0 128 0 0 0 0 0 0 0 0 0 21 #7 0 128 0 0 0 0 0 0 0";
        SevenForms x = read(3, whole.replace("#", ""));
        DUE.is("all numbers", x.count(0), 4);
        int places = 0;
        for (int at = whole.indexOf('#'); at >= 0; at = whole.indexOf('#', at + 1)) {
            String rest = whole.substring(at + 1).replace("#", "");
            fault(2, 3, whole.substring(0, at).replace("#", "") + "!128 " + rest);
            fault(2, 3, whole.substring(0, at).replace("#", "") + "!192 " + rest.replaceFirst(" ", " 0 "));
            places++;
        }
        DUE.is("so many numbers", places, 19);
    }

    /** "if some FILE has BYTES (just with OFFSET above 0): 4, STREAMS; then 5, ENTRIES". */
    private static void streamsOrNone() {
        read(0, ONE + NAME + "0 0");
        fault(2, 0, "1 !4 6 0 1 9 1 0");
        read(2, FILE + "5 1" + NAME + "0 0");
        fault(2, 2, "1 !5 1 14 1 128" + NAME + "0 0");
        fault(2, 1, "1 !5 1 14 1 128" + NAME + "0 0");
        fault(2, 0, "!0 5");
        fault(2, 0, "!2 5");
        fault(2, 0, "1 !6 5");
        fault(2, 2, "1 4 !5 0");
        fault(2, 2, "1 4 !7 0");
        fault(2, 2, FILE + "!4 1");
        fault(2, 2, FILE + "!6 1");
    }

    /** "NUMBER of BLOCKS p (1 to 6)"; "6, NUMBER 0". */
    private static void blocksOneToSix() {
        for (int p = 1; p <= 6; p++) {
            SevenForms x = read(p, blocks(p, p));
            DUE.is(p + " blocks", x.of(p - 1, 2), p - 1);
        }
        fault(5, 2, "1 4 6 0 !0 9 0");
        fault(5, 7, blocks(7, 7).replaceFirst("6 0 7", "6 0 !7"));
        fault(5, 2, "1 4 6 0 !255 1 0 0 0 0 0 0 128 9");
        fault(5, 2, "1 4 6 !1 1 9 2 0");
        fault(2, 2, "1 4 6 0 1 !8 2 0");
        fault(2, 2, "1 4 6 0 1 !10 2 0");
    }

    /** p BLOCKS of one byte and one FILE each, of which ENTRIES tell so many. */
    private static String blocks(int p, int n) {
        StringBuilder s = new StringBuilder("1 4 6 0 " + p + " 9" + " 1".repeat(p) + " 0 7 11 " + p + " 0" + " 1 1 0".repeat(p) + " 12"
            + " 1".repeat(p) + " 0 8 10 1" + " 0 0 0 0".repeat(p) + " 0 0 5 " + n + " 17 " + (1 + 4 * n) + " 0");
        for (int e = 0; e < n; e++) {
            s.append(" ").append(97 + e).append(" 0 0 0");
        }
        return s.append(" 0 0").toString();
    }

    /** "how many bytes each has packed (1 to 2400 ..)". */
    private static void packedOneTo2400() {
        read(1, Samples.oneBlock(1, "1 0", 1));
        read(2399, Samples.oneBlock(2399, "1 0", 2399));
        read(2400, Samples.oneBlock(2400, "1 0", 2400));
        fault(5, 1, "1 4 6 0 1 9 !0 0");
        fault(5, 2401, "1 4 6 0 1 9 !137 97 0");
        fault(5, 2401, "1 4 6 0 2 9 !137 97 0 0");
        fault(5, 2401, "1 4 6 0 2 9 1 !137 97 0");
        fault(2, 2401, "1 4 6 0 2 9 1 137 96 !1");
        fault(2, 2401, "1 4 6 0 2 9 137 96 1 !1");
        fault(5, 2, "1 4 6 0 2 9 !0 2 0");
        fault(5, 2, "1 4 6 0 2 9 2 !0 0");
    }

    /** "(.. OFFSET together: judged at the last one)". */
    private static void packedTogether() {
        fault(5, 2, "1 4 6 0 1 9 !1 0");
        fault(5, 2, "1 4 6 0 1 9 !3 0");
        fault(2, 2, "1 4 6 0 1 9 2 !1");
        fault(5, 6, "1 4 6 0 3 9 1 2 !2 0");
        fault(5, 6, "1 4 6 0 3 9 1 2 !4 0");
        fault(2, 6, "1 4 6 0 3 9 1 2 3 !1");
        fault(5, 6, "1 4 6 0 3 9 9 9 !1 0");
        fault(5, 6, "1 4 6 0 3 9 5 1 !1 0");
        fault(5, 6, "1 4 6 0 3 9 9 !0 1 0");
        fault(5, 258, "1 4 6 0 2 9 129 1 !2 0");
        fault(2, 258, "1 4 6 0 2 9 129 1 1 !2");
    }

    /** "7, 11, NUMBER p, 0". */
    private static void foldersAsBlocks() {
        fault(2, 2, PACKS + "!6");
        fault(2, 2, PACKS + "!8");
        fault(2, 2, PACKS + "7 !10");
        fault(2, 2, PACKS + "7 !12");
        fault(5, 2, PACKS + "7 11 !0 0");
        fault(5, 2, PACKS + "7 11 !2 0");
        fault(2, 2, PACKS + "7 11 1 !1");
        String two = "1 4 6 0 2 9 1 1 0 7 11 ";
        fault(5, 2, two + "!1 0");
        fault(5, 2, two + "!3 0");
        fault(2, 2, two + "2 !1");
    }

    /** "NUMBER n of coders (1 to 3)". */
    private static void codersOneToThree() {
        read(2, PACKS + "7 11 1 0 1 1 0 12 2 0 8 " + CHECK + "5 1" + NAME + "0 0");
        read(2, PACKS + "7 11 1 0 2 1 0 1 0 0 1 12 2 2 0 8 " + CHECK + "5 1" + NAME + "0 0");
        SevenForms x = read(2, PACKS + "7 11 1 0 3 1 0 1 0 1 0 0 1 1 2 12 2 2 2 0 8 " + CHECK + "5 1" + NAME + "0 0");
        DUE.is("three coders", x.coderAt(0, SevenForms.NONE), 3);
        fault(5, 2, PACKS + "7 11 1 0 !0 12");
        fault(5, 2, PACKS + "7 11 1 0 !4 1 0 1 0 1 0 1 0 0 1 1 2 2 3 12 2 2 2 2 0");
        fault(5, 2, "1 4 6 0 2 9 1 1 0 7 11 2 0 1 1 0 !0");
        fault(5, 2, "1 4 6 0 2 9 1 1 0 7 11 2 0 1 1 0 !4");
    }

    private static SevenForms coder(String coder) {
        return read(2, PACKS + "7 11 1 0 1 " + coder + " 12 2 0 8 " + CHECK + "5 1" + NAME + "0 0");
    }

    /** "a byte, how many bytes its id has (1 to 4), and 32 if it has properties". */
    private static void idsOneToFour() {
        for (int n = 1; n <= 4; n++) {
            coder(n + " 9".repeat(n));
            coder((32 + n) + " 9".repeat(n) + " 1 0");
        }
        for (int form = 0; form < 256; form++) {
            int id = form & 31;
            if (form >= 64 || id < 1 || id > 4) {
                fault(2, 2, PACKS + "7 11 1 0 1 !" + form + " 1 1 1 1 1 1 1 1");
                fault(2, 2, PACKS + "7 11 1 0 2 1 0 !" + form + " 1 1 1 1 1 1 1 1");
            }
        }
    }

    /** "then NUMBER of properties (1 to 4), these". */
    private static void propertiesOneToFour() {
        for (int n = 1; n <= 4; n++) {
            coder("33 9 " + n + " 255".repeat(n));
            fault(1, 2, PACKS + "7 11 1 0 1 33 9 " + n + " 255".repeat(n - 1) + " !");
        }
        fault(5, 2, PACKS + "7 11 1 0 1 33 9 !0 12 2 0");
        fault(5, 2, PACKS + "7 11 1 0 1 33 9 !5 1 1 1 1 1 12 2 0");
        fault(5, 2, PACKS + "7 11 1 0 1 33 3 !0 12 2 0");
    }

    /** "IDS: .. Any other id, or property, is one that nobody KNOWS." */
    private static void knownIds() {
        String[] known = {"1 0", "33 3 1 0", "33 3 1 255", "3 2 3 2", "3 2 3 4"};
        int[] kinds = {0, 5, 1025, 2, 3};
        for (int k = 0; k < known.length; k++) {
            SevenForms x = coder(known[k]);
            DUE.is(known[k] + ": kind", x.coderAt(0, 0), kinds[k]);
            DUE.is(known[k] + ": known", x.of(0, 8), 0);
            DUE.is(known[k] + ": its check is wrong", x.of(0, 7), 1);
        }
        String[] unknown = {"1 1", "1 2", "1 3", "1 4", "1 255", "2 0 0", "4 0 0 0 0", "33 0 1 0", "33 2 1 0", "33 4 1 0", "33 3 2 0 0",
            "33 3 4 0 0 0 0", "34 0 3 1 0", "34 3 0 1 0", "36 0 0 0 3 1 0", "2 2 3", "3 2 3 1", "3 2 3 3", "3 2 3 5", "3 1 3 2", "3 2 2 4",
            "3 3 3 4", "4 2 3 2 0", "4 0 2 3 2", "4 2 3 4 0", "4 0 2 3 4", "35 2 3 2 1 0", "35 2 3 4 1 0", "35 2 3 4 4 0 0 0 0", "3 0 0 0", "3 0 0 3"};
        for (String coder : unknown) {
            SevenForms x = coder(coder);
            DUE.is(coder + ": STATE", x.coderAt(0, 0), SevenForms.STATE);
            DUE.is(coder + ": unknown", x.of(0, 8), 1);
            DUE.is(coder + ": size", x.of(0, 1), 2);
            DUE.is(coder + ": no byte", x.at(0, 1, 0), SevenForms.NONE);
        }
        for (int c = 0; c < 3; c++) {
            String[] three = {" 1 0", " 1 0", " 1 0"};
            three[c] = " 1 7";
            SevenForms x = read(2, PACKS + "7 11 1 0 3" + String.join("", three) + " 0 1 1 2 12 2 2 2 0 8 " + CHECK + "5 1" + NAME + "0 0");
            DUE.is("one of three, " + c, x.coderAt(0, SevenForms.NONE), SevenForms.STATE);
        }
    }

    private static String coders(int n) {
        return PACKS + "7 11 1 0 " + n + " 1 0".repeat(n) + " ";
    }

    /** "Then n - 1 BONDS: NUMBER i, NUMBER o (below n)". */
    private static void bondsBelow() {
        fault(2, 2, coders(1) + "!0 0");
        fault(2, 2, coders(2) + "0 1 !0");
        fault(2, 2, coders(2) + "1 0 !0");
        fault(5, 2, coders(2) + "!2 0");
        fault(5, 2, coders(2) + "0 !2");
        fault(2, 2, coders(3) + "2 0 0 1 !0");
        fault(2, 2, coders(3) + "1 2 0 1 !0");
        fault(5, 2, coders(3) + "!3 0");
        fault(5, 2, coders(3) + "0 !3");
        fault(5, 2, coders(3) + "0 1 !3 2");
        fault(5, 2, coders(3) + "0 1 1 !3");
        fault(1, 2, coders(3) + "0 1 !");
        fault(1, 2, coders(3) + "0 1 1 !");
    }

    /** "No coder takes, or gives, by two": "7 at the first byte of a BOND that takes or gives twice". */
    private static void bondsTwice() {
        fault(7, 2, coders(3) + "0 1 !0 2");
        fault(7, 2, coders(3) + "0 1 !2 1");
        fault(7, 2, coders(3) + "0 1 !0 1");
        fault(7, 2, coders(3) + "2 0 !1 0");
        fault(7, 2, coders(3) + "2 0 !2 1");
        for (String bonds : new String[] {"0 1 1 2", "0 1 2 0", "1 2 0 1", "1 2 2 0", "2 0 0 1", "2 0 1 2", "1 0 0 2", "1 0 2 1"}) {
            SevenForms x = read(2, coders(3) + bonds + " 12 2 2 2 0 8 " + CHECK + "5 1" + NAME + "0 0");
            DUE.is(bonds + ": three coders", x.coderAt(0, SevenForms.NONE), 3);
        }
    }

    /** "no RING": "or closes a RING". */
    private static void bondsRing() {
        fault(7, 2, coders(2) + "!0 0");
        fault(7, 2, coders(2) + "!1 1");
        for (int c = 0; c < 3; c++) {
            fault(7, 2, coders(3) + "!" + c + " " + c);
            int next = (c + 1) % 3;
            int last = (c + 2) % 3;
            fault(7, 2, coders(3) + c + " " + next + " !" + next + " " + c);
            fault(7, 2, coders(3) + c + " " + next + " !" + last + " " + last);
        }
        // A RING in the second FOLDER: each FOLDER's BONDS are its own.
        fault(7, 2, "1 4 6 0 2 9 1 1 0 7 11 2 0 2 1 0 1 0 0 1 2 1 0 1 0 !1 1");
        fault(2, 2, "1 4 6 0 2 9 1 1 0 7 11 2 0 2 1 0 1 0 0 1 2 1 0 1 0 0 1 !0");
    }

    /** "Of known coders alone, all give as many bytes as the BLOCK has packed." */
    private static void givenKnown() {
        fault(5, 2, coders(1) + "12 !1 0");
        fault(5, 2, coders(1) + "12 !3 0");
        fault(5, 2, coders(1) + "12 !0 0");
        fault(5, 2, coders(2) + "0 1 12 2 !1 0");
        fault(5, 2, coders(2) + "0 1 12 2 !3 0");
        fault(5, 2, coders(3) + "0 1 1 2 12 2 2 !1 0");
        fault(2, 2, coders(3) + "0 1 1 2 12 2 2 2 !1");
        fault(2, 2, coders(3) + "0 1 1 2 !13 2 2 2");
        fault(5, 3, "1 4 6 0 2 9 1 2 0 7 11 2 0 1 1 0 1 1 0 12 !2 1 0");
        fault(5, 3, "1 4 6 0 2 9 1 2 0 7 11 2 0 1 1 0 1 1 0 12 1 !1 0");
        // One that nobody knows makes another BLOCK's coders no freer.
        fault(5, 3, "1 4 6 0 2 9 1 2 0 7 11 2 0 1 1 9 1 1 0 12 9 !1 0");
        fault(5, 3, "1 4 6 0 2 9 1 2 0 7 11 2 0 1 1 0 1 1 9 12 !9 1 0");
    }

    /** "how many bytes it gives (1 to 2400)", of a BLOCK that nobody KNOWS. */
    private static void givenUnknown() {
        String unknown = PACKS + "7 11 1 0 2 1 0 1 9 0 1 12 ";
        String rest = " 0 8 " + CHECK + "5 1" + NAME + "0 0";
        DUE.is("gives 1", read(2, unknown + "1 137 96" + rest).of(0, 1), 1);
        DUE.is("gives 2400", read(2, unknown + "137 96 1" + rest).of(0, 1), 2400);
        fault(5, 2, unknown + "!0 1 0");
        fault(5, 2, unknown + "1 !0 0");
        fault(5, 2, unknown + "!137 97 1 0");
        fault(5, 2, unknown + "1 !137 97 0");
        // The FOLDER gives what the coder gives that is bound to none: here its second one.
        String turned = PACKS + "7 11 1 0 2 1 0 1 9 1 0 12 ";
        DUE.is("the second gives", read(2, turned + "7 137 96" + rest).of(0, 1), 2400);
    }

    /** "13, p NUMBERS: how many (1 or more, 24 together at most)". */
    private static void fileCounts() {
        for (int[] counts : new int[][] {{24}, {23, 1}, {1, 23}, {12, 12}, {19, 1, 1, 1, 1, 1}, {1, 1, 1, 1, 1, 19}, {4, 4, 4, 4, 4, 4}}) {
            SevenForms x = read(30 * counts.length, counted(counts));
            DUE.is("24 files", x.count(0), 24);
        }
        fault(5, 30, before(1) + "13 !0 9");
        fault(5, 30, before(1) + "13 !25 9");
        fault(5, 60, before(2) + "13 !0 2 9");
        fault(5, 60, before(2) + "13 2 !0 9");
        fault(5, 60, before(2) + "13 23 !2 9");
        fault(5, 60, before(2) + "13 24 !1 9");
        fault(5, 60, before(2) + "13 !25 1 9");
        fault(5, 180, before(6) + "13 4 4 4 4 4 !5 9");
        fault(2, 180, before(6) + "13 4 4 4 4 4 4 !10");
        fault(5, 180, before(6) + "13 19 1 1 1 1 !2 9");
        fault(5, 180, before(6) + "13 1 23 !1 1 1 1 9");
    }

    /** p BLOCKS of 30 bytes each, by COPY, up to 8. */
    private static String before(int p) {
        return "1 4 6 0 " + p + " 9" + " 30".repeat(p) + " 0 7 11 " + p + " 0" + " 1 1 0".repeat(p) + " 12" + " 30".repeat(p) + " 0 8 ";
    }

    private static byte[] counted(int[] counts) {
        Form f = new Form().addAll(Form.parse(before(counts.length) + "13")).add(counts).add(9);
        int files = 0;
        for (int c : counts) {
            f.add(ones(c - 1));
            files += c;
        }
        f.add(10, 1).addAll(zeros(4 * files)).add(0, 0, 5, files, 17).number(1 + 4 * files).add(0);
        for (int e = 0; e < files; e++) {
            f.add(97, 0, 0, 0);
        }
        return f.add(0, 0).bytes();
    }

    private static int[] ones(int n) {
        int[] row = new int[n];
        Arrays.fill(row, 1);
        return row;
    }

    /** "if a BLOCK has other than one FILE: 13": 2 at a 13 "that need not be". */
    private static void fileCountsNeedless() {
        fault(2, 30, before(1) + "!13 1 10 1");
        fault(2, 30, before(1) + "!13 1 9 10 1");
        fault(2, 60, before(2) + "!13 1 1 10 1");
        fault(2, 180, before(6) + "!13 1 1 1 1 1 1 9");
        fault(2, 180, before(6) + "13 1 1 1 1 1 2 !10");
        fault(1, 60, before(2) + "13 1 !");
        fault(5, 60, before(2) + "13 1 !0");
        fault(2, 60, before(2) + "!12 1 2");
        fault(2, 60, before(2) + "!14 1 2");
    }

    /** "the sizes of its FILES but the last one (NUMBERS; each leaves 1 at least to each FILE behind it)". */
    private static void fileSizes() {
        read(30, two(29));
        read(30, two(1));
        fault(5, 30, before(1) + "13 2 9 !30 10");
        fault(5, 30, before(1) + "13 2 9 !0 10");
        fault(5, 30, before(1) + "13 2 9 !31 10");
        fault(2, 30, before(1) + "13 3 9 28 1 !9");
        fault(5, 30, before(1) + "13 3 9 !29 1 10");
        fault(5, 30, before(1) + "13 3 9 28 !2 10");
        fault(5, 30, before(1) + "13 3 9 28 !0 10");
        fault(2, 30, before(1) + "13 3 9 1 28 !9");
        fault(5, 30, before(1) + "13 3 9 1 !29 10");
        fault(2, 30, before(1) + "13 24 9 7" + " 1".repeat(22) + " !9");
        fault(5, 30, before(1) + "13 24 9 !8" + " 1".repeat(22) + " 10");
        fault(5, 30, before(1) + "13 24 9 7" + " 1".repeat(21) + " !2 10");
        fault(2, 60, before(2) + "13 2 2 9 29 29 !9");
        fault(5, 60, before(2) + "13 2 2 9 29 !30 10");
        fault(2, 60, before(2) + "13 1 2 9 29 !29 10");
        // As many FILES as bytes, and one more.
        fault(2, 2, FOLDERS + "8 13 2 9 1 !9");
        fault(5, 2, FOLDERS + "8 13 3 9 !1 1 10");
        fault(5, 2, FOLDERS + "8 13 3 9 !0 1 10");
        // Of what nobody knows: by what it gives.
        String unknown = PACKS + "7 11 1 0 1 1 9 12 5 0 8 13 2 9 ";
        fault(2, 2, unknown + "4 !9");
        fault(5, 2, unknown + "!5 10");
    }

    private static String two(int first) {
        return before(1) + "13 2 9 " + first + " 10 1 0 0 0 0 0 0 0 0 0 0 5 2" + NAMES + "0 0";
    }

    /** "if one has more than one: 9": 2 at a 9 "that need not be", or where it must be and is not. */
    private static void fileSizesNeedless() {
        fault(2, 30, before(1) + "!9 10 1");
        fault(2, 30, before(1) + "!9 30 10 1");
        fault(2, 30, before(1) + "13 2 !10 1");
        fault(2, 30, before(1) + "13 2 !8 1");
        fault(2, 30, before(1) + "13 2 !13 2");
        fault(2, 30, before(1) + "13 2 9 1 !13");
        fault(2, 30, before(1) + "13 2 9 1 !9 1");
    }

    /** "10, 1, the CHECK of each FILE (4); 0. 0." */
    private static void checksOfFour() {
        fault(2, 2, FOLDERS + "8 !11 1 0 0 0 0 0 0");
        fault(2, 2, FOLDERS + "8 !0");
        fault(2, 2, FOLDERS + "8 10 !0 0 0 0 0 0 0");
        fault(2, 2, FOLDERS + "8 10 !2 0 0 0 0 0 0");
        fault(1, 2, FOLDERS + "8 10 1 0 0 0 !");
        fault(2, 2, FOLDERS + "8 10 1 0 0 0 0 !5");
        fault(2, 2, FOLDERS + "8 10 1 0 0 0 0 0 !5");
        fault(2, 2, FOLDERS + "8 10 1 0 0 0 0 0 0 !0");
        fault(2, 30, before(1) + "13 2 9 1 10 1 1 1 1 1 1 1 1 1 !1");
        read(2, FOLDERS + "8 10 1 255 255 255 255 0 0 5 1" + NAME + "0 0");
    }

    /** "ENTRIES: NUMBER n (1 to 24 ..)". */
    private static void entriesOneTo24() {
        for (int n : new int[] {1, 2, 8, 9, 23, 24}) {
            DUE.is(n + " entries", read(0, empties(n)).count(0), n);
        }
        fault(5, 0, "1 5 !0 17 1 0 0 0");
        fault(5, 0, "1 5 !0 14 0");
        fault(5, 0, "1 5 !25 14 4 255 255 255 128");
        fault(5, 0, "1 5 !255 0 0 0 0 0 0 0 128 14");
        fault(5, 1, blocks(1, 1).replaceFirst("5 1 17", "5 !25 17"));
        fault(2, 0, "1 5 24 !17");
    }

    private static byte[] empties(int n) {
        boolean[] all = new boolean[n];
        Arrays.fill(all, true);
        Form f = new Form().add(1, 5, n, 14).number((n + 7) / 8).bits(all).add(17).number(1 + 4 * n).add(0);
        for (int e = 0; e < n; e++) {
            f.add(97, 0, 0, 0);
        }
        return f.add(0, 0).bytes();
    }

    /** "n (.. not below the FILES of STREAMS)". */
    private static void entriesNotBelowFiles() {
        for (int p = 2; p <= 6; p++) {
            read(p, blocks(p, p));
            fault(5, p, blocks(p, p - 1).replaceFirst("0 0 5 ", "0 0 5 !"));
        }
        fault(5, 30, before(1) + "13 24 9" + " 1".repeat(23) + " 10 1" + " 0 0 0 0".repeat(24) + " 0 0 5 !23 17");
        fault(2, 30, before(1) + "13 24 9" + " 1".repeat(23) + " 10 1" + " 0 0 0 0".repeat(24) + " 0 0 5 24 !14");
        fault(5, 30, before(1) + "13 24 9" + " 1".repeat(23) + " 10 1" + " 0 0 0 0".repeat(24) + " 0 0 5 !25 14");
        fault(5, 2, FILE + "5 !0 17");
    }

    /** "14 if some have no BYTES": 2 at a 14 "that need not be", and where it must be and is not. */
    private static void emptiesNeeded() {
        read(2, FILE + "5 1" + NAME + "0 0");
        fault(2, 2, FILE + "5 1 !14 1 0" + NAME + "0 0");
        fault(2, 2, FILE + "5 1 !15 1 0" + NAME + "0 0");
        fault(2, 2, FILE + "5 1 !16 1 0" + NAME + "0 0");
        read(2, FILE + "5 2 14 1 64" + NAMES + "0 0");
        read(2, FILE + "5 2 14 1 128" + NAMES + "0 0");
        fault(2, 2, FILE + "5 2 !17 9");
        fault(2, 2, FILE + "5 2 !15 1 128");
        fault(2, 0, "1 5 1 !17 5");
        fault(2, 0, "1 5 1 !16 1");
        fault(2, 0, "1 5 1 !13 1 128");
        fault(2, 0, ONE + "!14 1 128");
    }

    /** "lengths of 14 to 16 at once (only one can be)": of 14. */
    private static void emptiesLength() {
        for (int n : new int[] {1, 7, 8, 9, 16, 17, 24}) {
            int right = n <= 8 ? 1 : n <= 16 ? 2 : 3;
            fault(5, 0, "1 5 " + n + " 14 !" + (right - 1) + " 255 255 255 255");
            fault(5, 0, "1 5 " + n + " 14 !" + (right + 1) + " 255 255 255 255");
            read(0, empties(n));
        }
        // At once: a bit left over, or no byte behind it, is not come to.
        fault(5, 0, "1 5 1 14 !2 255");
        fault(5, 0, "1 5 1 14 !0");
    }

    /** "a ROW OF BITS, 1 for each of these (another count of them: 5 at its NUMBER)". */
    private static void emptiesCount() {
        fault(5, 0, "1 5 1 14 !1 0" + NAME + "0 0");
        fault(5, 0, "1 5 2 14 !1 64" + NAMES + "0 0");
        fault(5, 0, "1 5 2 14 !1 128" + NAMES + "0 0");
        fault(5, 0, "1 5 2 14 !1 0" + NAMES + "0 0");
        fault(5, 2, FILE + "5 2 14 !1 192" + NAMES + "0 0");
        fault(5, 2, FILE + "5 2 14 !1 0" + NAMES + "0 0");
        fault(5, 0, "1 5 9 14 !2 255 0");
        fault(5, 0, "1 5 9 14 !2 254 128");
        fault(5, 0, "1 5 24 14 !3 255 255 254");
        // The row is read to its end first.
        fault(1, 0, "1 5 9 14 2 0 !");
        fault(2, 0, "1 5 9 14 2 0 !64");
    }

    /** "bits left over are 0": "2 at .. a bit left over". */
    private static void bitsLeftOver() {
        for (int bit = 1; bit < 256; bit *= 2) {
            if (bit < 128) {
                fault(2, 0, "1 5 1 14 1 !" + (128 + bit) + NAME + "0 0");
                fault(2, 0, "1 5 9 14 2 255 !" + (128 + bit));
                fault(2, 0, "1 5 17 14 3 255 255 !" + (128 + bit));
                fault(2, 0, ONE + "15 1 !" + (128 + bit));
                fault(2, 0, ONE + "16 1 !" + (128 + bit));
            }
            if (bit < 64) {
                fault(2, 0, TWO + NAMES + "20 11 0 !" + (128 + bit) + " 0");
                fault(2, 0, TWO + NAMES + "21 7 0 !" + (64 + bit) + " 0");
            }
        }
        // The last bit that is none, and the first that is.
        fault(2, 0, "1 5 7 14 1 !255");
        read(0, empties(7));
        fault(2, 0, "1 5 8 14 1 255 !18");
        fault(2, 0, "1 5 23 14 3 255 255 !255");
        fault(2, 0, "1 5 24 14 3 255 255 255 !18");
        // A bit left over, though there is none that belongs.
        fault(2, 0, ONE + "15 1 !64");
        fault(2, 0, TWO + NAMES + "20 11 0 !32 0");
    }

    /** "15 if some of these are FILES, 16 if some are ANTI": 2 at one "that need not be". */
    private static void filesAndAntisNeeded() {
        read(0, TWO + NAMES + "0 0");
        read(0, TWO + "15 1 64" + NAMES + "0 0");
        read(0, TWO + "15 1 192" + NAMES + "0 0");
        read(0, TWO + "16 1 64" + NAMES + "0 0");
        read(0, TWO + "16 1 192" + NAMES + "0 0");
        read(0, TWO + "15 1 128 16 1 128" + NAMES + "0 0");
        fault(2, 0, TWO + "!15 1 0" + NAMES + "0 0");
        fault(2, 0, TWO + "!16 1 0" + NAMES + "0 0");
        fault(2, 0, TWO + "15 1 64 !16 1 0" + NAMES + "0 0");
        fault(2, 0, TWO + "15 1 64 !15 1 64" + NAMES + "0 0");
        fault(2, 0, TWO + "16 1 64 !15 1 64" + NAMES + "0 0");
        fault(2, 0, TWO + "16 1 64 !16 1 64" + NAMES + "0 0");
        // Just when its row is read: its end, its length, a bit left over come ahead.
        fault(1, 0, TWO + "15 1 !");
        fault(5, 0, TWO + "15 !0");
        fault(2, 0, TWO + "15 1 !1");
        fault(2, 0, TWO + "!15 1 0");
    }

    /** "likewise, a bit for each of them": by those without BYTES, not by all. */
    private static void filesAndAntisLength() {
        String nine = "1 5 9 14 2 255 128 ";
        String names = " 17 37 0" + " 97 0 0 0".repeat(9) + " 0 0";
        read(0, nine + "15 2 0 128" + names);
        read(0, nine + "16 2 255 128" + names);
        fault(5, 0, nine + "15 !1 128");
        fault(5, 0, nine + "15 !3 128 0 0");
        fault(5, 0, nine + "16 !1 128");
        fault(5, 0, nine + "16 !3 128 0 0");
        fault(2, 0, nine + "15 2 0 !64");
        // Nine ENTRIES, eight of them without BYTES.
        String eight = FILE + "5 9 14 2 127 128 ";
        read(2, eight + "15 1 1 16 1 128" + names);
        fault(5, 2, eight + "15 !2 1 0" + names);
        fault(5, 2, eight + "16 !2 1 0" + names);
        fault(2, 2, FILE + "5 8 14 1 127 15 1 !1");
        fault(2, 2, FILE + "5 8 14 1 127 16 1 !1");
    }

    /** "NUMBER n (1 to 24 ..)", and of them one with BYTES: 23 bits for the others. */
    private static void filesAndAntisOf24() {
        String names = " 17 97 0" + " 97 0 0 0".repeat(24) + " 0 0";
        String first = FILE + "5 24 14 3 127 255 255 ";
        SevenForms x = read(2, first + "15 3 128 0 2 16 3 0 0 2" + names);
        DUE.is("24: the first without bytes is a file", x.of(1, 0), 0);
        DUE.is("24: the last one is a file", x.of(23, 0), 0);
        DUE.is("24: the last one is anti", x.of(23, 4), 1);
        DUE.is("24: the one ahead is neither", x.of(22, 0) + 2 * x.of(22, 4), 1);
        fault(2, 2, first + "15 3 128 0 !1");
        fault(2, 2, first + "16 3 0 0 !1");
        SevenForms y = read(2, FILE + "5 24 14 3 255 255 254 15 3 255 255 254 16 3 255 255 254" + names);
        DUE.is("24: the last has bytes", y.of(23, 1), 2);
        DUE.is("24: it is not anti", y.of(23, 4), 0);
    }

    private static String units(int n) {
        return " 1 255".repeat(n);
    }

    /** "8 at the first byte of a NAME that has none, or more than 20 units." */
    private static void namesOneToTwenty() {
        DUE.is("1 unit", read(0, ONE + "17 5 0" + units(1) + " 0 0 0 0").of(0, 3), 1);
        DUE.is("20 units", read(0, ONE + "17 43 0" + units(20) + " 0 0 0 0").of(0, 3), 20);
        fault(8, 0, ONE + "17 3 0 !0 0 0 0");
        fault(8, 0, ONE + "17 45 0 !" + units(21).trim() + " 0 0 0 0");
        // Judged as soon as the unit is read that is one too many.
        fault(8, 0, ONE + "17 45 0 !" + units(21).trim());
        fault(1, 0, ONE + "17 45 0" + units(20) + " 1 !");
        fault(1, 0, ONE + "17 45 0" + units(20) + " !");
        fault(1, 0, ONE + "17 45 0" + units(20) + " 0 !");
        fault(8, 0, TWO + "17 7 0 97 0 0 0 !0 0 0 0");
        fault(8, 0, TWO + "17 7 0 !0 0 97 0 0 0 0 0");
        fault(8, 0, TWO + "17 87 0" + units(20) + " 0 0 !" + units(21).trim() + " 0 0");
        read(0, TWO + "17 85 0" + units(20) + " 0 0" + units(20) + " 0 0 0 0");
        // A unit is 0 by both of its bytes alone.
        read(0, ONE + "17 5 0 0 1 0 0 0 0");
        read(0, ONE + "17 5 0 1 0 0 0 0 0");
    }

    /** "of 17, 20, 21 when all that belongs to them is read, behind all else of it": of 17. */
    private static void namesLength() {
        read(0, ONE + "17 5 0 97 0 0 0 0 0");
        for (int n : new int[] {0, 1, 3, 4, 6, 7, 127}) {
            fault(5, 0, ONE + "17 !" + n + " 0 97 0 0 0 0 0");
        }
        // All else of it comes first: the byte 0, a NAME, the tape's length.
        fault(2, 0, ONE + "17 0 !1 97 0 0 0 0 0");
        fault(2, 0, ONE + "17 4 !1 97 0 0 0 0 0");
        fault(8, 0, ONE + "17 4 0 !0 0 0 0");
        fault(1, 0, ONE + "17 4 0 97 0 0 !");
        fault(1, 0, ONE + "17 6 0 97 0 0 !");
        // What is behind it comes later.
        fault(5, 0, ONE + "17 !4 0 97 0 0 0");
        fault(5, 0, ONE + "17 !6 0 97 0 0 0 9 9");
        fault(2, 0, ONE + "17 5 0 97 0 0 0 !9 9");
        fault(2, 0, ONE + "!18 5 0 97 0 0 0 0 0");
    }

    /** "17: NUMBER of bytes, 0, NAMES: .. each": as many as there are ENTRIES. */
    private static void namesAsMany() {
        fault(1, 0, TWO + "17 9 0 97 0 0 0 !");
        fault(2, 0, ONE + "17 5 0 97 0 0 0 !98 0 0 0 0 0");
        fault(5, 0, ONE + "17 !9 0 97 0 0 0 98 0 0 0 0 0");
    }

    /** "20 if some have a TIME", "21 if some have ATTRIBUTES": 2 at one "that need not be". */
    private static void valuesNeeded() {
        String names = TWO + NAMES;
        read(0, names + "0 0");
        fault(2, 0, names + "!20 3 0 0 0 0 0");
        fault(2, 0, names + "!21 3 0 0 0 0 0");
        fault(2, 0, names + "!20 3 0 0 5 0 0");
        fault(2, 0, names + "!20 99 0 0");
        fault(1, 0, names + "20 3 0 !");
        read(0, names + "20 11 0 64 0 1 1 1 1 1 1 1 1 0 0");
        read(0, names + "20 11 0 128 0 1 1 1 1 1 1 1 1 21 7 0 128 0 1 1 1 1 0 0");
        fault(2, 0, names + "20 11 0 64 0 1 1 1 1 1 1 1 1 !20 11 0 64 0");
        fault(2, 0, names + "21 7 0 64 0 1 1 1 1 !20 11 0 64 0");
        fault(2, 0, names + "21 7 0 64 0 1 1 1 1 !21 7 0 64 0");
        for (int tag : new int[] {1, 14, 16, 17, 18, 19, 22, 25, 255}) {
            fault(2, 0, names + "!" + tag + " 3 0 0");
        }
    }

    /** "1, if all have one, else 0 and a ROW OF BITS; 0": 2 at "a 0 for all where all have it, at that byte". */
    private static void valuesOfAll() {
        String names = TWO + NAMES;
        read(0, names + "20 18 1 0 1 1 1 1 1 1 1 1 1 1 1 1 1 1 1 1 0 0");
        fault(2, 0, names + "20 19 !0 192 0 1 1 1 1 1 1 1 1 1 1 1 1 1 1 1 1 0 0");
        read(0, names + "21 10 1 0 1 1 1 1 1 1 1 1 0 0");
        fault(2, 0, names + "21 11 !0 192 0 1 1 1 1 1 1 1 1 0 0");
        fault(2, 0, names + "20 18 !2 0 1 1 1 1 1 1 1 1 1 1 1 1 1 1 1 1 0 0");
        fault(2, 0, names + "20 18 !255 0");
        fault(2, 0, names + "20 18 1 !1");
        fault(2, 0, names + "20 11 0 64 !1");
        fault(2, 0, names + "21 10 1 !1");
        // Of one ENTRY a row is never right.
        fault(2, 0, ONE + NAME + "20 11 !0 128 0 1 1 1 1 1 1 1 1 0 0");
        fault(2, 0, ONE + NAME + "!20 11 0 0 0");
        read(0, ONE + NAME + "20 10 1 0 1 1 1 1 1 1 1 1 0 0");
        // Nine: 8 of the row's first byte, or all of both.
        String nine = "1 5 9 14 2 255 128 17 37 0" + " 97 0 0 0".repeat(9) + " ";
        read(0, nine + "21 36 0 255 0 0" + " 7 7 7 7".repeat(8) + " 0 0");
        fault(2, 0, nine + "21 40 !0 255 128 0" + " 7 7 7 7".repeat(9) + " 0 0");
        fault(2, 0, nine + "!21 4 0 0 0 0 0 0");
        read(0, nine + "21 8 0 0 128 0 7 7 7 7 0 0");
    }

    /** "of 17, 20, 21 when all that belongs to them is read, behind all else of it": of 20 and 21. */
    private static void valuesLength() {
        String names = TWO + NAMES;
        for (int n : new int[] {0, 3, 10, 12, 18, 127}) {
            fault(5, 0, names + "20 !" + n + " 0 64 0 1 1 1 1 1 1 1 1 0 0");
            fault(5, 0, names + "20 !" + n + " 0 64 0 1 1 1 1 1 1 1 1");
        }
        for (int n : new int[] {0, 3, 6, 8, 10, 127}) {
            fault(5, 0, names + "21 !" + n + " 0 64 0 1 1 1 1 0 0");
        }
        for (int n : new int[] {17, 19}) {
            fault(5, 0, names + "20 !" + n + " 1 0 1 1 1 1 1 1 1 1 1 1 1 1 1 1 1 1 0 0");
        }
        fault(1, 0, names + "20 3 0 64 0 1 1 1 1 1 1 1 !");
        fault(1, 0, names + "21 3 0 64 0 1 1 1 !");
        fault(2, 0, names + "20 0 !2 64 0");
        fault(2, 0, names + "21 0 !2 64 0");
        fault(2, 0, names + "20 3 !2 64 0");
        fault(2, 0, names + "20 3 !0 192 0");
        fault(2, 0, names + "20 3 0 64 !7");
        fault(2, 0, names + "20 3 0 !65 7");
    }

    /** "ENTRIES: .. 0." */
    private static void endOfEntries() {
        fault(2, 0, ONE + NAME + "!1 0");
        fault(2, 0, ONE + NAME + "!255 0");
        fault(2, 0, ONE + NAME + "20 10 1 0 1 1 1 1 1 1 1 1 !1 0");
        fault(2, 0, ONE + NAME + "21 6 1 0 1 1 1 1 !1 0");
        fault(1, 0, ONE + NAME + "!");
    }

    /** "then 5, ENTRIES; 0": "6 at a byte behind the end of the header". */
    private static void endOfHeader() {
        read(0, ONE + NAME + "0 0");
        fault(1, 0, ONE + NAME + "0 !");
        fault(2, 0, ONE + NAME + "0 !1");
        fault(6, 0, ONE + NAME + "0 0 !0");
        fault(6, 0, ONE + NAME + "0 0 !1 2 3");
        fault(6, 2, FILE + "5 1" + NAME + "0 0 !255");
        fault(2, 2, FILE + "5 1" + NAME + "0 !5 0");
    }

    /** "1 at the tape's length, where bytes must be that are not": a header that lacks its last bytes, any number of them. */
    private static void oneByteLess() {
        byte[] header = Form.parse("1 4 6 0 2 9 2 3 0 7 11 2 0 3 33 3 1 9 1 0 4 1 2 3 4 2 0 1 2 1 1 0 12 137 96 7 5 3 0 8 13 2 1 9 2 10 1"
            + " 1 2 3 4 5 6 7 8 1 2 3 4 0 0 5 5 14 1 24 15 1 128 16 1 128 17 21 0" + " 97 0 0 0".repeat(5)
            + " 20 11 0 64 0 1 1 1 1 1 1 1 1 21 22 1 0" + " 1 1 1 1".repeat(5) + " 0 0");
        read(5, header);
        for (int n = 1; n < header.length; n++) {
            faultAt(1, 37 + n, Form.tape(zeros(5), Arrays.copyOf(header, n)));
        }
    }

    /** "The first FAULT, at a PLACE"; "Judged as soon as it is read": of two the one that is come to first. */
    private static void soonest() {
        fault(5, 2, "1 4 6 !1 9 9 9 1");
        fault(5, 2, "1 4 6 0 !7 8 0");
        fault(2, 2, "1 4 6 0 1 !8 0 0");
        fault(5, 2, coders(2) + "!2 2");
        fault(5, 2, coders(3) + "0 1 0 !3");
        fault(7, 2, coders(3) + "0 1 !0 1 13");
        fault(7, 2, coders(2) + "!0 0");
        fault(5, 0, "1 5 !25 13");
        fault(2, 0, "1 5 1 14 1 !129");
        fault(5, 0, "1 5 2 14 !1 128 15 1 0");
        fault(2, 0, TWO + "!15 1 0 16 1 0");
        fault(8, 0, TWO + "17 1 0 !0 0 0 0");
        fault(5, 0, TWO + "17 !1 0 97 0 0 0 98 0 0 0 20 0");
        fault(2, 0, TWO + NAMES + "!20 1 0 0");
    }

    /** "the CHECK of each FILE that is known is right, or WRONG": by one bit, and no FAULT. */
    private static void wrongChecks() {
        long right = Form.check(zeros(2));
        for (int bit = -1; bit < 32; bit++) {
            long told = bit < 0 ? right : right ^ 1L << bit;
            byte[] header = new Form().addAll(Form.parse(FOLDERS + "8 10 1")).little(told, 4).addAll(Form.parse("0 0 5 1" + NAME + "0 0")).bytes();
            SevenForms x = read(2, header);
            DUE.is("bit " + bit + ": wrong", x.of(0, 7), bit < 0 ? 0 : 1);
            DUE.is("bit " + bit + ": the check of its bytes", x.number(0, 2), right);
            DUE.is("bit " + bit + ": its bytes", x.at(0, 1, 1), 0);
        }
    }
}
