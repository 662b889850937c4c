/** Each promise of the document by itself: ordinary inputs, its edges, wrong inputs. */
public final class PromiseTest {
    private static final int NONE = SevenForms.NONE, BAD = SevenForms.BAD, STATE = SevenForms.STATE, FULL = SevenForms.FULL;
    private static final int LOW = Integer.MIN_VALUE, HIGH = Integer.MAX_VALUE;
    private static final Due DUE = new Due();

    public static void main(String[] args) {
        promise1New();
        promise2Entry();
        promise3Name();
        promise4Put();
        promise5Block();
        promise6Coder();
        promise7Set();
        promise8Write();
        promise9And10ReadFault();
        promise11Of();
        promise12Number();
        promise13At();
        promise14CoderAt();
        promise15Peek();
        promise16Poke();
        promise17Type();
        promise18Cut();
        promise19Seal();
        promise20Count();
        promise21Clear();
        unknownBlocks();
        DUE.end();
    }

    private static void is(String what, long got, long want) {
        DUE.is(what, got, want);
    }

    /** A tape whose BLOCK 0 has a coder that nobody knows (FILES of 2 and 5 bytes), BLOCK 1 one COPY of 3 bytes; and an empty FILE. */
    private static SevenForms half() {
        byte[] header = Form.parse("1 4  6 0 2 9 4 3 0  7 11 2 0  1 1 99  1 1 0  12 7 3 0"
            + " 8 13 2 1 9 2 10 1  1 2 3 4  5 6 7 8  29 128 188 85 0  0"
            + " 5 4 14 1 16 15 1 128 17 17 0 97 0 0 0 98 0 0 0 99 0 0 0 100 0 0 0  0 0");
        SevenForms x = new SevenForms();
        Form.type(x, Form.tape(new byte[] {9, 9, 9, 9, 1, 2, 3}, header));
        is("read of a tape with an unknown block", x.read(), 4);
        return x;
    }

    private static SevenForms withFile(int bytes) {
        SevenForms x = new SevenForms();
        x.entry(0);
        x.name(0, 'a');
        for (int i = 0; i < bytes; i++) {
            x.put(0, i, 1);
        }
        return x;
    }

    private static void promise1New() {
        SevenForms x = new SevenForms();
        is("1 count(0)", x.count(0), 0);
        is("1 count(1)", x.count(1), 0);
        is("1 fault", x.fault(), 0);
        for (int b = 0; b < 6; b++) {
            is("1 coders", x.coderAt(b, NONE), 0);
            is("1 coder 0", x.coderAt(b, 0), NONE);
        }
        is("1 of", x.of(0, 0), BAD);
        is("1 read of the empty tape", x.read(), -10);
        is("1 its fault", x.fault(), 1);
    }

    private static void promise2Entry() {
        SevenForms x = new SevenForms();
        for (int kind : new int[] {-1, 2, LOW, HIGH}) {
            is("2 kind", x.entry(kind), BAD);
        }
        for (int i = 0; i < 24; i++) {
            is("2 entry", x.entry(i % 2), i);
        }
        is("2 full", x.entry(0), FULL);
        is("2 bad ahead of full", x.entry(2), BAD);
        is("2 still", x.count(0), 24);
        is("2 kind of 0", x.of(0, 0), 0);
        is("2 kind of 23", x.of(23, 0), 1);
    }

    private static void promise3Name() {
        SevenForms x = new SevenForms();
        is("3 no entry", x.name(0, 'a'), BAD);
        x.entry(1);
        is("3 unit 0", x.name(0, (char) 0), BAD);
        is("3 entry -1", x.name(-1, 'a'), BAD);
        is("3 entry 1", x.name(1, 'a'), BAD);
        is("3 entry 24", x.name(24, 'a'), BAD);
        for (int i = 0; i < 20; i++) {
            is("3 units", x.name(0, (char) (65535 - i)), i + 1);
        }
        is("3 full", x.name(0, 'a'), FULL);
        is("3 bad ahead of full", x.name(0, (char) 0), BAD);
        is("3 first", x.at(0, 0, 0), 65535);
        is("3 last", x.at(0, 0, 19), 65516);
        is("3 none", x.at(0, 0, 20), NONE);
    }

    private static void promise4Put() {
        SevenForms x = new SevenForms();
        is("4 no entry", x.put(0, 1, 1), BAD);
        x.entry(0);
        x.entry(1);
        is("4 directory", x.put(1, 1, 1), BAD);
        for (int n : new int[] {0, 9, -1, LOW, HIGH}) {
            is("4 n", x.put(0, 1, n), BAD);
        }
        is("4 eight", x.put(0, 0x8102030405060708L, 8), 8);
        is("4 highest first", x.at(0, 1, 0), 0x81);
        is("4 lowest last", x.at(0, 1, 7), 8);
        is("4 the lowest of w", x.put(0, 0x1122334455667788L, 3), 11);
        is("4 of three", x.at(0, 1, 8), 0x66);
        is("4 of three", x.at(0, 1, 10), 0x88);
        for (int size = 19; size <= 115; size += 8) {
            is("4 put", x.put(0, 0, 8), size);
        }
        is("4 beyond 120", x.put(0, 0, 6), FULL);
        is("4 nothing changed", x.of(0, 1), 115);
        is("4 up to 120", x.put(0, 0, 5), 120);
        is("4 full", x.put(0, 0, 1), FULL);
        is("4 bad ahead of full", x.put(0, 0, 0), BAD);
        is("4 entry", x.entry(0), 2);
        x.set(2, 0, 1);
        is("4 anti", x.put(2, 0, 1), STATE);
        is("4 bad ahead of state", x.put(2, 0, 9), BAD);
        x.set(2, 0, 0);
        is("4 no more anti", x.put(2, 0, 1), 1);
    }

    private static void promise5Block() {
        SevenForms x = new SevenForms();
        is("5 no entry", x.block(0, 1), BAD);
        x.entry(0);
        x.entry(1);
        is("5 at first 0", x.block(0, 5), 0);
        is("5 then 5", x.block(0, 5), 5);
        is("5 of", x.of(0, 2), 5);
        is("5 back", x.block(0, 0), 5);
        for (int b : new int[] {-1, 6, LOW, HIGH}) {
            is("5 block", x.block(0, b), BAD);
        }
        is("5 directory", x.block(1, 1), BAD);
        is("5 stays", x.of(0, 2), 0);
    }

    private static void promise6Coder() {
        SevenForms x = new SevenForms();
        for (int b : new int[] {-1, 6, LOW, HIGH}) {
            is("6 block", x.coder(b, 0, 0), BAD);
        }
        for (int k : new int[] {-1, 4, LOW, HIGH}) {
            is("6 kind", x.coder(0, k, 1), BAD);
        }
        for (int d : new int[] {0, 257, -1, LOW, HIGH}) {
            is("6 d of delta", x.coder(0, 1, d), BAD);
        }
        is("6 any d of others", x.coder(1, 2, HIGH), 1);
        is("6 any d of others", x.coder(1, 0, LOW), 2);
        is("6 delta of 256", x.coder(5, 1, 256), 1);
        is("6 turn", x.coder(5, 3, -7), 2);
        is("6 copy", x.coder(5, 0, 9), 3);
        is("6 full", x.coder(5, 2, 0), FULL);
        is("6 bad ahead of full", x.coder(5, 1, 0), BAD);
        is("6 first", x.coderAt(5, 0), 1 + 4 * 256);
        is("6 second", x.coderAt(5, 1), 3);
        is("6 third", x.coderAt(5, 2), 0);
        is("6 others", x.coderAt(0, NONE), 0);
    }

    private static void promise7Set() {
        SevenForms x = new SevenForms();
        is("7 no entry", x.set(0, 1, 1), BAD);
        x.entry(0);
        for (int what : new int[] {-1, 5, LOW, HIGH}) {
            is("7 what", x.set(0, what, 0), BAD);
        }
        is("7 v 2", x.set(0, 0, 2), BAD);
        is("7 v -1", x.set(0, 0, -1), BAD);
        is("7 v 2^32", x.set(0, 0, 1L << 32), BAD);
        is("7 anti", x.set(0, 0, 1), 1);
        is("7 is anti", x.of(0, 4), 1);
        is("7 not anti", x.set(0, 0, 0), 1);
        is("7 is not anti", x.of(0, 4), 0);
        is("7 time", x.set(0, 1, Long.MIN_VALUE), 1);
        is("7 has a time", x.of(0, 5), 1);
        is("7 the time", x.number(0, 0), Long.MIN_VALUE);
        is("7 no attributes", x.of(0, 6), 0);
        is("7 attributes", x.set(0, 3, 0x7FFFFFFF80000001L), 1);
        is("7 has attributes", x.of(0, 6), 1);
        is("7 the lowest 32 bits", x.number(0, 1), 0xFFFFFFFF80000001L);
        is("7 no time", x.set(0, 2, 5), 1);
        is("7 has none", x.of(0, 5), 0);
        is("7 time 0", x.number(0, 0), 0);
        is("7 attributes stay", x.of(0, 6), 1);
        is("7 no attributes", x.set(0, 4, 5), 1);
        is("7 has none", x.of(0, 6), 0);
        is("7 attributes 0", x.number(0, 1), 0);
        x.put(0, 1, 1);
        is("7 anti with bytes", x.set(0, 0, 1), STATE);
        is("7 bad ahead of state", x.set(0, 0, 2), BAD);
        is("7 stays", x.of(0, 4), 0);
        is("7 not anti with bytes", x.set(0, 0, 0), 1);
        x.entry(1);
        is("7 anti directory", x.set(1, 0, 1), 1);
    }

    private static void promise8Write() {
        SevenForms x = new SevenForms();
        is("8 without entries", x.write(), 32);
        is("8 count", x.count(1), 32);
        x.entry(1);
        is("8 no name", x.write(), STATE);
        is("8 the tape stays", x.count(1), 32);
        x.name(0, 'd');
        is("8 a directory", x.write(), 47);
        is("8 entries stay", x.count(0), 1);
        SevenForms y = filled(20);
        is("8 2400 bytes in a block", y.write() > 2432 ? 1 : 0, 1);
        int length = y.count(1);
        y.entry(0);
        y.name(20, 'z');
        y.put(20, 1, 1);
        is("8 2401 bytes in a block", y.write(), FULL);
        is("8 the tape stays", y.count(1), length);
        y.entry(0);
        is("8 state ahead of full", y.write(), STATE);
        promise8Limit();
    }

    private static SevenForms filled(int files) {
        SevenForms x = new SevenForms();
        for (int i = 0; i < files; i++) {
            x.entry(0);
            x.name(i, (char) ('a' + i));
            for (int k = 0; k < 15; k++) {
                x.put(i, i * 1000003L + k, 8);
            }
        }
        return x;
    }

    /** Reading gives FILES of more BYTES than put can, so that a tape can have just 5000 bytes. */
    private static void promise8Limit() {
        SevenForms x = Samples.fiveThousand();
        is("8 a tape of 5000", x.count(1), 5000);
        is("8 read of 5000", x.count(0), 4);
        x.type(0, 0);
        is("8 up to 5000", x.write(), 5000);
        is("8 one more byte", x.put(3, 1, 1), 2);
        is("8 beyond 5000", x.write(), FULL);
        is("8 the tape stays", x.count(1), 5000);
        is("8 a file that was read is full", x.put(0, 1, 1), FULL);
        SevenForms y = Samples.fiveThousand();
        y.block(3, 0);
        is("8 a block of 2401", y.write(), FULL);
    }

    private static void promise9And10ReadFault() {
        SevenForms x = withFile(3);
        x.coder(0, 3, 0);
        x.write();
        x.clear();
        is("9 read", x.read(), 1);
        is("10 none", x.fault(), 0);
        is("9 bytes", x.at(0, 1, 2), 2);
        is("9 coder", x.coderAt(0, 0), 3);
        x.entry(1);
        x.coder(4, 2, 0);
        x.poke(0, 54);
        is("9 first byte", x.read(), -10);
        is("10 a byte", x.fault(), 2);
        is("9 all is as it was", x.count(0), 2);
        is("9 coders, too", x.coderAt(4, 0), 2);
        x.poke(0, 55);
        is("9 read again", x.read(), 1);
        is("10 none again", x.fault(), 0);
        is("9 no coders but those", x.coderAt(4, NONE), 0);
        x.cut(31);
        is("9 at the tape's length", x.read(), -41);
        is("10 too short", x.fault(), 1);
        x.clear();
        is("10 stays", x.fault(), 1);
        oneTapeAfterAnother();
        SevenForms y = new SevenForms();
        y.entry(0);
        y.coder(0, 1, 1);
        y.write();
        y.type(0, 0);
        Form.type(y, Form.tape(new byte[0], new byte[0]));
        is("9 a tape without entries", y.read(), 0);
        is("9 no entries", y.count(0), 0);
        is("9 no coders", y.coderAt(0, NONE), 0);
    }

    /** Nothing of an earlier tape is left when another one is read by the same object. */
    private static void oneTapeAfterAnother() {
        SevenForms x = withFile(3);
        x.write();
        byte[] one = Form.typed(x);
        SevenForms y = filled(3);
        y.set(0, 1, 5);
        y.set(1, 3, 5);
        y.entry(1);
        y.name(3, 'e');
        y.set(3, 0, 1);
        y.coder(0, 1, 4);
        y.coder(0, 2, 0);
        y.write();
        byte[] more = Form.typed(y);
        for (int k = 0; k < 3; k++) {
            Form.type(y, more);
            is("9 more", y.read(), 4);
            Form.type(y, one);
            is("9 one", y.read(), 1);
            is("9 its size", y.of(0, 1), 3);
            is("9 its time", y.of(0, 5), 0);
            is("9 its coders", y.coderAt(0, NONE), 1);
            is("9 it is right", y.of(0, 7), 0);
            is("9 written", y.write(), one.length);
            DUE.holds("9 the same", java.util.Arrays.equals(Form.typed(y), one));
        }
    }

    private static void promise11Of() {
        SevenForms x = withFile(3);
        x.entry(1);
        x.name(0, 'b');
        for (int what : new int[] {-1, 9, LOW, HIGH}) {
            is("11 what", x.of(0, what), BAD);
        }
        is("11 entry", x.of(2, 0), BAD);
        is("11 entry", x.of(-1, 0), BAD);
        int[] file = {0, 3, 0, 2, 0, 0, 0, 0, 0};
        int[] directory = {1, 0, 0, 0, 0, 0, 0, 0, 0};
        for (int what = 0; what < 9; what++) {
            is("11 of a file " + what, x.of(0, what), file[what]);
            is("11 of a directory " + what, x.of(1, what), directory[what]);
        }
        x.name(1, 'd');
        x.write();
        x.poke(33, 77);
        is("11 read", x.read(), 2);
        is("11 wrong", x.of(0, 7), 1);
        is("11 not of a directory", x.of(1, 7), 0);
        x.put(0, 1, 1);
        is("11 it was wrong when it was read", x.of(0, 7), 1);
        x.write();
        x.read();
        is("11 right now", x.of(0, 7), 0);
    }

    private static void promise12Number() {
        SevenForms x = withFile(0);
        is("12 no bytes", x.number(0, 2), 0);
        for (char c : "123456789".toCharArray()) {
            x.put(0, c, 1);
        }
        is("12 check", x.number(0, 2), 0xCBF43926L);
        x.set(0, 1, -9);
        x.set(0, 3, 9);
        is("12 time", x.number(0, 0), -9);
        is("12 attributes", x.number(0, 1), 9);
        is("12 what", x.number(0, 3), 0);
        is("12 what", x.number(0, -1), 0);
        is("12 entry", x.number(1, 0), 0);
        is("12 entry", x.number(-1, 2), 0);
        x.put(0, 0xFFFF, 2);
        is("12 of what it has now", x.number(0, 2), Form.check(new byte[] {49, 50, 51, 52, 53, 54, 55, 56, 57, -1, -1}));
    }

    private static void promise13At() {
        SevenForms x = withFile(2);
        x.put(0, 255, 1);
        is("13 unit", x.at(0, 0, 0), 'a');
        is("13 byte", x.at(0, 1, 2), 255);
        for (int i : new int[] {-1, 3, LOW, HIGH}) {
            is("13 none", x.at(0, 0, i), NONE);
            is("13 none", x.at(0, 1, i), NONE);
        }
        is("13 part", x.at(0, 2, 0), BAD);
        is("13 part", x.at(0, -1, 0), BAD);
        is("13 entry", x.at(1, 0, 0), BAD);
        is("13 entry", x.at(-1, 1, 0), BAD);
        x.entry(1);
        is("13 directory", x.at(1, 1, 0), NONE);
    }

    private static void promise14CoderAt() {
        SevenForms x = new SevenForms();
        x.coder(3, 1, 7);
        x.coder(3, 2, 7);
        is("14 how many", x.coderAt(3, NONE), 2);
        is("14 delta", x.coderAt(3, 0), 29);
        is("14 swap", x.coderAt(3, 1), 2);
        for (int i : new int[] {-2, 2, 3, LOW, HIGH}) {
            is("14 none", x.coderAt(3, i), NONE);
        }
        for (int b : new int[] {-1, 6, LOW, HIGH}) {
            is("14 block", x.coderAt(b, NONE), BAD);
        }
    }

    private static void promise15Peek() {
        SevenForms x = new SevenForms();
        is("15 empty", Due.peekThrows(x, 0), 1);
        x.type(0x80FF, 2);
        is("15 first", x.peek(0), 128);
        is("15 second", x.peek(1), 255);
        for (long i : new long[] {-1, 2, 1L << 32, Long.MIN_VALUE, Long.MAX_VALUE}) {
            is("15 throws", Due.peekThrows(x, i), 1);
        }
    }

    private static void promise16Poke() {
        SevenForms x = new SevenForms();
        is("16 empty", Due.pokeThrows(x, 0, 0), 1);
        x.type(0x0203, 2);
        is("16 what it was", x.poke(1, 255), 3);
        is("16 what it became", x.poke(1, 0), 255);
        is("16 the other one", x.peek(0), 2);
        for (long i : new long[] {-1, 2, 1L << 32, Long.MIN_VALUE, Long.MAX_VALUE}) {
            is("16 place", Due.pokeThrows(x, i, 0), 1);
            is("16 place first", Due.pokeThrows(x, i, 256), 1);
        }
        for (int v : new int[] {-1, 256, LOW, HIGH}) {
            is("16 value", Due.pokeThrows(x, 0, v), 2);
        }
        is("16 stays", x.peek(0), 2);
    }

    private static void promise17Type() {
        SevenForms x = new SevenForms();
        for (int n : new int[] {-1, 9, LOW, HIGH}) {
            is("17 n", x.type(0, n), BAD);
        }
        is("17 three", x.type(0x99010203L, 3), 3);
        is("17 highest first", x.peek(0), 1);
        is("17 lowest last", x.peek(2), 3);
        is("17 behind", x.type(0x8000000000000007L, 8), 11);
        is("17 first of eight", x.peek(3), 128);
        is("17 emptied", x.type(5, 0), 0);
        is("17 is empty", x.count(1), 0);
        for (int i = 0; i < 624; i++) {
            x.type(i, 8);
        }
        is("17 up to 4999", x.type(0, 7), 4999);
        is("17 beyond 5000", x.type(0, 2), FULL);
        is("17 stays", x.count(1), 4999);
        is("17 up to 5000", x.type(6, 1), 5000);
        is("17 full", x.type(0, 1), FULL);
        is("17 bad ahead of full", x.type(0, 9), BAD);
        is("17 the last byte", x.peek(4999), 6);
        is("17 a full one is emptied", x.type(0, 0), 0);
    }

    private static void promise18Cut() {
        SevenForms x = new SevenForms();
        is("18 empty", x.cut(0), 0);
        is("18 none there", x.cut(1), BAD);
        x.type(0x01020304L, 4);
        is("18 all", x.cut(4), 4);
        is("18 one more", x.cut(5), BAD);
        is("18 below", x.cut(-1), BAD);
        is("18 lowest", x.cut(LOW), BAD);
        is("18 three", x.cut(3), 3);
        is("18 is cut", x.count(1), 3);
        is("18 the last one", x.peek(2), 3);
        is("18 no more", Due.peekThrows(x, 3), 1);
    }

    private static void promise19Seal() {
        SevenForms x = new SevenForms();
        is("19 no head", x.seal(0), STATE);
        is("19 no head", x.seal(1), STATE);
        is("19 what", x.seal(2), BAD);
        is("19 what", x.seal(-1), BAD);
        for (int i = 0; i < 31; i++) {
            x.type(0, 1);
        }
        is("19 31 bytes", x.seal(0), STATE);
        x.type(1, 1);
        is("19 32 bytes", x.seal(0), 1);
        byte[] told = new byte[20];
        told[19] = 1;
        is("19 check at 8", x.peek(8) + 256L * x.peek(9) + 65536L * x.peek(10) + 16777216L * x.peek(11), Form.check(told));
        is("19 told length 32", x.seal(1), 1);
        is("19 check of nothing", x.peek(31), 0);
        x.type(1, 1);
        is("19 another length", x.seal(1), STATE);
        is("19 the head alone", x.seal(0), 1);
        x.poke(20, 1);
        is("19 size", x.seal(1), 1);
        is("19 check of the header", x.peek(28) + 256L * x.peek(29) + 65536L * x.peek(30) + 16777216L * x.peek(31), Form.check(new byte[] {1}));
        x.poke(20, 0);
        x.poke(12, 1);
        is("19 offset", x.seal(1), 1);
        is("19 check of nothing again", x.peek(28), 0);
        for (int i = 12; i < 20; i++) {
            x.poke(i, 255);
        }
        x.poke(20, 2);
        is("19 together by wrapping round", x.seal(1), STATE);
        SevenForms y = withFile(3);
        y.write();
        byte[] whole = Form.typed(y);
        for (int i = 8; i < 12; i++) {
            y.poke(i, 170);
            y.poke(i + 20, 170);
        }
        is("19 seal all", y.seal(1), 1);
        DUE.holds("19 as it was written", java.util.Arrays.equals(whole, Form.typed(y)));
    }

    private static void promise20Count() {
        SevenForms x = withFile(1);
        x.type(0, 5);
        is("20 entries", x.count(0), 1);
        is("20 bytes", x.count(1), 5);
        for (int what : new int[] {-1, 2, LOW, HIGH}) {
            is("20 what", x.count(what), BAD);
        }
    }

    private static void promise21Clear() {
        SevenForms x = withFile(9);
        x.coder(2, 3, 0);
        x.block(0, 2);
        x.set(0, 1, 8);
        x.set(0, 3, 8);
        x.type(1, 2);
        is("21 how many", x.clear(), 1);
        is("21 none", x.count(0), 0);
        is("21 the tape stays", x.count(1), 2);
        is("21 no coders", x.coderAt(2, NONE), 0);
        is("21 again", x.clear(), 0);
        is("21 a new one", x.entry(0), 0);
        for (int what = 0; what < 9; what++) {
            is("21 all new " + what, x.of(0, what), 0);
        }
        is("21 no time", x.number(0, 0), 0);
        x.name(0, 'a');
        x.set(0, 0, 1);
        x.clear();
        x.entry(0);
        is("21 not anti", x.of(0, 4), 0);
        x.name(0, 'a');
        x.put(0, 1, 1);
        x.write();
        x.poke(32, 2);
        x.read();
        is("21 wrong", x.of(0, 7), 1);
        x.clear();
        x.entry(0);
        is("21 wrong no more", x.of(0, 7), 0);
        SevenForms y = half();
        is("21 of half", y.clear(), 4);
        is("21 block 0 is known again", y.coderAt(0, NONE), 0);
        is("21 and takes coders", y.coder(0, 0, 0), 1);
    }

    /** What is told of BLOCKS that nobody KNOWS, by one call after the other. */
    private static void unknownBlocks() {
        SevenForms x = half();
        is("unknown: no fault", x.fault(), 0);
        int[] sizes = {2, 5, 3, 0};
        int[] lost = {1, 1, 0, 0};
        int[] blocks = {0, 0, 1, 0};
        for (int e = 0; e < 4; e++) {
            is("unknown: kind", x.of(e, 0), 0);
            is("unknown: size", x.of(e, 1), sizes[e]);
            is("unknown: block", x.of(e, 2), blocks[e]);
            is("unknown: wrong", x.of(e, 7), 0);
            is("unknown: lost", x.of(e, 8), lost[e]);
        }
        is("unknown: no byte", x.at(0, 1, 0), NONE);
        is("unknown: no check", x.number(0, 2), 0);
        is("unknown: name", x.at(1, 0, 0), 98);
        is("unknown: others open", x.at(2, 1, 2), 3);
        is("unknown: put", x.put(0, 1, 1), STATE);
        is("unknown: put to an empty file there", x.put(3, 1, 1), STATE);
        is("unknown: bad ahead of it", x.put(0, 1, 0), BAD);
        is("unknown: from there", x.block(0, 2), STATE);
        is("unknown: from there, empty", x.block(3, 2), STATE);
        is("unknown: to there", x.block(2, 0), STATE);
        is("unknown: bad block", x.block(0, 6), BAD);
        is("unknown: elsewhere", x.block(2, 5), 1);
        is("unknown: coder", x.coder(0, 0, 0), STATE);
        is("unknown: bad coder", x.coder(0, 4, 0), BAD);
        is("unknown: coderAt", x.coderAt(0, NONE), STATE);
        is("unknown: coderAt none such", x.coderAt(0, 9), STATE);
        is("unknown: the known one", x.coderAt(1, NONE), 1);
        is("unknown: its copy", x.coderAt(1, 0), 0);
        is("unknown: anti with a size", x.set(0, 0, 1), STATE);
        is("unknown: anti without", x.set(3, 0, 1), 1);
        is("unknown: write", x.write(), STATE);
    }
}
