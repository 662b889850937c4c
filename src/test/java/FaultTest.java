import java.util.Arrays;

/** Each FAULT at its PLACE. In a header's text '!' stands ahead of the byte that is the PLACE. */
public final class FaultTest {
    private static final Due DUE = new Due();

    public static void main(String[] args) {
        heads();
        numbers();
        starts();
        packs();
        folders();
        bonds();
        givenSizes();
        files();
        emptyRows();
        names();
        values();
        ends();
        literals();
        cuts();
        DUE.end();
    }

    /** The tape of a header has this FAULT, and all stays as it was. */
    private static void fault(int fault, int packed, String header) {
        SevenForms x = new SevenForms();
        x.entry(1);
        x.name(0, 'k');
        x.coder(5, 1, 3);
        Form.type(x, Form.tape(new byte[packed], Form.parse(header)));
        DUE.is(header + ": read", x.read(), -10 - (32 + packed + Form.mark(header)));
        DUE.is(header + ": fault", x.fault(), fault);
        DUE.is(header + ": entries", x.count(0), 1);
        DUE.is(header + ": name", x.at(0, 0, 0), 'k');
        DUE.is(header + ": coders", x.coderAt(5, 0), 13);
        DUE.is(header + ": no other coders", x.coderAt(0, -1), 0);
    }

    private static SevenForms right(int packed, String header, int entries) {
        SevenForms x = new SevenForms();
        Form.type(x, Form.tape(new byte[packed], Form.parse(header)));
        DUE.is(header + ": read", x.read(), entries);
        DUE.is(header + ": fault", x.fault(), 0);
        return x;
    }

    private static void head(String what, byte[] tape, int fault, int place) {
        SevenForms x = new SevenForms();
        Form.type(x, tape);
        DUE.is(what + ": read", x.read(), -10 - place);
        DUE.is(what + ": fault", x.fault(), fault);
    }

    /** Pokes into a tape, with the CHECK at 8 made right again. */
    private static void poked(String what, byte[] tape, int at, int v, int fault, int place) {
        SevenForms x = new SevenForms();
        Form.type(x, tape);
        x.poke(at, v);
        x.seal(0);
        DUE.is(what + ": read", x.read(), -10 - place);
        DUE.is(what + ": fault", x.fault(), fault);
    }

    private static void heads() {
        byte[] none = Form.tape(new byte[0], new byte[0]);
        byte[] one = Form.tape(new byte[0], Form.parse(ONE_FILE));
        for (int n = 0; n < 32; n++) {
            head("cut to " + n, Arrays.copyOf(one, n), 1, n);
        }
        head("31 wrong bytes", new byte[31], 1, 31);
        head("32 wrong bytes", new byte[32], 2, 0);
        for (int i = 0; i < 8; i++) {
            byte[] wrong = one.clone();
            wrong[i] ^= 64;
            wrong[9] ^= 1;
            head("byte " + i, wrong, 2, i);
        }
        for (int i = 8; i < 32; i++) {
            byte[] wrong = one.clone();
            wrong[i] ^= 1;
            head("check at 8, by " + i, wrong, 3, 8);
        }
        for (int i = 12; i < 28; i++) {
            poked("told length " + i, one, i, 1 + (one[i] & 255), 5, 12);
            poked("told length of an empty one " + i, none, i, 1, 5, 12);
        }
        poked("a check without a header", none, 28, 1, 5, 12);
        poked("a check of the header", one, 30, 1 ^ (one[30] & 255), 4, 28);
        poked("a byte of the header", one, 40, 1 ^ (one[40] & 255), 4, 28);
        byte[] longer = Arrays.copyOf(none, 33);
        head("a byte behind", longer, 5, 12);
        poked("offset without size", longer, 12, 1, 5, 12);
        head("longer", Arrays.copyOf(one, one.length + 1), 5, 12);
        head("shorter", Arrays.copyOf(one, one.length - 1), 5, 12);
        byte[] round = one.clone();
        Arrays.fill(round, 12, 20, (byte) 255);
        round[20]++;
        SevenForms x = new SevenForms();
        Form.type(x, round);
        x.seal(0);
        DUE.is("together by wrapping round", x.read(), -22);
    }

    private static final String ONE_FILE = "1 5 1 14 1 128 15 1 128 17 5 0 97 0 0 0 0 0";
    private static final String BYTES = "1 4  6 0 1 9 2 0  7 11 1 0 1 1 0 12 2 0  8 10 1 1 2 3 4 0  0  5 1 17 5 0 97 0 0 0 0 0";

    private static void numbers() {
        right(0, ONE_FILE, 1);
        fault(2, 0, "1 5 !128 1 14 1 128 15 1 128 17 5 0 97 0 0 0 0 0");
        fault(2, 0, "1 5 !128 127 17");
        fault(5, 0, "1 5 !128 128 17");
        fault(2, 0, "1 5 !192 255 63 17");
        fault(5, 0, "1 5 !192 0 64 17");
        fault(2, 0, "1 5 !224 255 255 31 17");
        fault(5, 0, "1 5 !224 0 0 32 17");
        fault(2, 0, "1 5 !240 255 255 255 15 17");
        fault(5, 0, "1 5 !240 1 0 0 16 17");
        fault(2, 0, "1 5 !248 1 0 0 0 7 17");
        fault(5, 0, "1 5 !248 1 0 0 0 8 17");
        fault(2, 0, "1 5 !252 1 0 0 0 0 3 17");
        fault(5, 0, "1 5 !252 1 0 0 0 0 4 17");
        fault(5, 0, "1 5 !253 1 0 0 0 0 0 17");
        fault(2, 0, "1 5 !254 1 0 0 0 0 0 1 17");
        fault(5, 0, "1 5 !254 1 0 0 0 0 0 2 17");
        fault(2, 0, "1 5 !255 1 0 0 0 0 0 0 0 17");
        fault(5, 0, "1 5 !255 1 0 0 0 0 0 0 1 17");
        fault(5, 0, "1 5 !255 1 0 0 0 0 0 0 128 17");
        fault(1, 0, "1 5 255 1 0 0 0 0 0 0 !");
        fault(1, 0, "1 5 128 !");
        fault(5, 0, "1 5 !0 17");
        fault(5, 0, "1 5 !25 14");
    }

    private static void starts() {
        fault(2, 0, "!0");
        fault(2, 0, "!2 5");
        fault(2, 0, "1 !4 6 0 1 9 1 0");
        fault(2, 2, "1 !5 1 17 5 0 97 0 0 0 0 0");
        fault(2, 0, "1 !0");
        fault(1, 0, "1 !");
    }

    private static void packs() {
        right(2, BYTES, 1);
        fault(2, 2, "1 4 !7");
        fault(5, 2, "1 4 6 !1 1 9 2 0");
        fault(2, 2, "1 4 6 !128 0 1 9 2 0");
        fault(5, 2, "1 4 6 0 !0 9 0");
        fault(5, 7, "1 4 6 0 !7 9 1 1 1 1 1 1 1 0");
        fault(2, 2, "1 4 6 0 1 !10 2 0");
        fault(5, 2, "1 4 6 0 1 9 !1 0");
        fault(5, 2, "1 4 6 0 1 9 !3 0");
        fault(5, 2, "1 4 6 0 1 9 !0 0");
        fault(5, 2, "1 4 6 0 2 9 !0 2 0");
        fault(5, 2, "1 4 6 0 2 9 9 !1 0");
        fault(5, 2, "1 4 6 0 3 9 1 1 !1 0");
        fault(5, 3, "1 4 6 0 2 9 !137 97 2 0");
        fault(5, 3, "1 4 6 0 2 9 137 96 !2 0");
        fault(5, 2401, "1 4 6 0 1 9 !137 97 0");
        fault(2, 2, "1 4 6 0 1 9 2 !10");
        fault(2, 2400, "1 4 6 0 1 9 137 96 !1");
    }

    private static final String PACKS = "1 4 6 0 1 9 2 0 ";

    private static void folders() {
        fault(2, 2, PACKS + "!8");
        fault(2, 2, PACKS + "7 !12");
        fault(5, 2, PACKS + "7 11 !2 0");
        fault(5, 2, PACKS + "7 11 !0 0");
        fault(2, 2, PACKS + "7 11 1 !1");
        fault(5, 2, PACKS + "7 11 1 0 !0");
        fault(5, 2, PACKS + "7 11 1 0 !4 1 0 1 0 1 0 1 0");
        for (int form : new int[] {0, 5, 16, 17, 32, 37, 64, 65, 96, 97, 128, 129, 161, 255}) {
            fault(2, 2, PACKS + "7 11 1 0 1 !" + form + " 0 0 0 0 0 0");
        }
        fault(2, 2, PACKS + "7 11 1 0 1 1 0 !13");
        fault(2, 2, PACKS + "7 11 1 0 1 2 0 0 !13");
        fault(2, 2, PACKS + "7 11 1 0 1 4 0 0 0 0 !13");
        fault(5, 2, PACKS + "7 11 1 0 1 33 3 !0 12");
        fault(5, 2, PACKS + "7 11 1 0 1 33 3 !5 1 2 3 4 5 12");
        fault(2, 2, PACKS + "7 11 1 0 1 33 3 4 1 2 3 4 !11");
        fault(2, 2, PACKS + "7 11 1 0 1 36 3 3 3 3 1 9 !0");
        fault(1, 2, PACKS + "7 11 1 0 1 36 3 3 3 !");
        fault(1, 2, PACKS + "7 11 1 0 1 33 3 2 1 !");
    }

    private static void bonds() {
        String two = PACKS + "7 11 1 0 2 1 0 1 0 ";
        String three = PACKS + "7 11 1 0 3 1 0 1 0 1 0 ";
        fault(5, 2, two + "!2 0");
        fault(5, 2, two + "0 !2");
        fault(7, 2, two + "!0 0");
        fault(7, 2, two + "!1 1");
        fault(2, 2, two + "1 0 !0");
        fault(2, 2, two + "0 1 !0");
        fault(5, 2, two + "0 !128 128");
        fault(2, 2, two + "!128 0 1");
        fault(5, 2, three + "!3 0");
        fault(7, 2, three + "0 1 !0 2");
        fault(7, 2, three + "0 1 !2 1");
        fault(7, 2, three + "0 1 !1 0");
        fault(7, 2, three + "2 0 !0 2");
        fault(7, 2, three + "0 1 !2 2");
        fault(7, 2, three + "!2 2");
        fault(2, 2, three + "0 1 1 2 !13");
        fault(2, 2, three + "2 1 0 2 !13");
        fault(5, 2, three + "0 1 0 !3");
        fault(1, 2, three + "0 1 0 !");
    }

    private static void givenSizes() {
        String known = PACKS + "7 11 1 0 2 1 0 3 2 3 4 0 1 12 ";
        fault(5, 2, known + "!1 2 0");
        fault(5, 2, known + "2 !3 0");
        fault(2, 2, known + "2 2 !1");
        String unknown = PACKS + "7 11 1 0 2 1 0 3 2 3 5 0 1 12 ";
        fault(5, 2, unknown + "!0 2 0");
        fault(5, 2, unknown + "2 !137 97 0");
        fault(2, 2, unknown + "137 96 1 !8");
        String both = "1 4 6 0 2 9 2 3 0 7 11 2 0 1 1 7 1 1 0 12 ";
        fault(5, 5, both + "9 !9 0");
        fault(2, 5, both + "9 3 !9 0");
    }

    private static void files() {
        String folders = PACKS + "7 11 1 0 1 1 0 12 2 0 ";
        fault(2, 2, folders + "!5");
        fault(2, 2, folders + "8 !0");
        fault(2, 2, folders + "8 !9 1 10");
        fault(2, 2, folders + "8 !13 1 10 1");
        fault(1, 2, folders + "8 13 !");
        fault(5, 2, folders + "8 13 !0 9");
        fault(5, 2, folders + "8 13 !25 9");
        fault(2, 2, folders + "8 13 2 !10 1");
        fault(5, 2, folders + "8 13 2 9 !0 10");
        fault(5, 2, folders + "8 13 2 9 !2 10");
        fault(5, 2, folders + "8 13 3 9 !1 1 10");
        fault(2, 2, folders + "8 13 2 9 1 !9");
        fault(2, 2, folders + "8 13 2 9 1 10 !0");
        fault(2, 2, folders + "8 10 !2");
        fault(2, 2, folders + "8 10 1 1 2 3 4 !5");
        fault(1, 2, folders + "8 10 1 1 2 3 !");
        fault(2, 2, folders + "8 10 1 1 2 3 4 0 !5");
        fault(2, 2, folders + "8 10 1 1 2 3 4 0 0 !4");
        String blocks = "1 4 6 0 2 9 30 30 0 7 11 2 0 1 1 0 1 1 0 12 30 30 0 8 ";
        fault(2, 60, blocks + "!13 1 1 9 10");
        fault(5, 60, blocks + "13 24 !1 9");
        fault(5, 60, blocks + "13 1 !24 9");
        fault(2, 60, blocks + "13 1 23 !10");
        fault(5, 60, blocks + "13 3 2 9 28 !2 29 10");
        fault(5, 60, blocks + "13 3 2 9 !29 1 29 10");
        fault(5, 60, blocks + "13 3 2 9 28 1 !30 10");
        fault(2, 60, blocks + "13 3 2 9 28 1 29 !11");
        // The sizes are those of what the FOLDER gives: here 5 by its second coder.
        String inner = "1 4 6 0 1 9 2 0 7 11 1 0 2 1 7 1 8 1 0 12 9 5 0 8 13 2 9 ";
        right(2, inner + "4 10 1 0 0 0 0 0 0 0 0 0 0 5 2 17 9 0 97 0 0 0 98 0 0 0 0 0", 2);
        fault(5, 2, inner.replace("1 0 12", "0 1 12").replace("9 5 0", "5 9 0") + "!5 10");
        fault(5, 2, inner + "!5 10");
    }

    private static void emptyRows() {
        String names = " 17 9 0 97 0 0 0 98 0 0 0 0 0";
        String files = "1 4 6 0 1 9 2 0 7 11 1 0 1 1 0 12 2 0 8 10 1 1 2 3 4 0 0 ";
        right(0, "1 5 2 14 1 192" + names, 2);
        right(2, files + "5 2 14 1 128" + names, 2);
        fault(5, 2, files.replace("8 10 1 1 2 3 4", "8 13 2 9 1 10 1 1 2 3 4 5 6 7 8") + "5 !1 17");
        fault(5, 2, files + "5 !0 17");
        fault(5, 2, files + "5 !25 17");
        fault(2, 2, files + "5 1 !14 1 0 17 5 0 97 0 0 0 0 0");
        fault(2, 2, files + "5 1 !15 1 0 17");
        fault(2, 2, files + "5 1 !16 1 0 17");
        fault(2, 2, files + "5 2 !17 9");
        fault(2, 0, "1 5 2 !17 9");
        fault(2, 0, "1 5 2 !15 1 192");
        fault(5, 0, "1 5 2 14 !2 192 0");
        fault(5, 0, "1 5 2 14 !0 17");
        fault(5, 0, "1 5 8 14 !2 255 0");
        fault(5, 0, "1 5 9 14 !1 255 128");
        fault(2, 0, "1 5 2 14 1 !193" + names);
        fault(2, 0, "1 5 2 14 1 !224" + names);
        fault(2, 0, "1 5 9 14 2 255 !192");
        fault(5, 0, "1 5 2 14 !1 128" + names);
        fault(5, 0, "1 5 2 14 !1 0" + names);
        fault(5, 2, files + "5 2 14 !1 192" + names);
        fault(2, 0, "1 5 2 14 1 !32" + names);
        fault(1, 0, "1 5 9 14 2 0 !");
        fault(2, 0, "1 5 2 14 1 192 !15 1 0" + names);
        fault(2, 0, "1 5 2 14 1 192 !16 1 0" + names);
        fault(2, 0, "1 5 2 14 1 192 15 1 64 !16 1 0" + names);
        fault(2, 0, "1 5 2 14 1 192 16 1 64 !15 1 64" + names);
        fault(2, 0, "1 5 2 14 1 192 15 1 64 !15 1 64" + names);
        fault(2, 0, "1 5 2 14 1 192 !14 1 192" + names);
        fault(5, 0, "1 5 2 14 1 192 15 !2 64 0" + names);
        fault(5, 0, "1 5 2 14 1 192 16 !0" + names);
        fault(2, 0, "1 5 2 14 1 192 15 1 !65" + names);
        fault(2, 0, "1 5 2 14 1 192 16 1 !32" + names);
        fault(2, 2, files + "5 2 14 1 64 15 1 !192" + names);
        fault(2, 2, files + "5 2 14 1 64 15 1 128 16 1 !64" + names);
    }

    private static void names() {
        String one = "1 5 1 14 1 128 ";
        String two = "1 5 2 14 1 192 ";
        String full = "1 1 2 2 3 3 4 4 5 5 6 6 7 7 8 8 9 9 9 9 1 1 2 2 3 3 4 4 5 5 6 6 7 7 8 8 9 9 9 9 ";
        right(0, one + "17 43 0 " + full + "0 0 0 0", 1);
        right(0, one + "17 5 0 0 1 0 0 0 0", 1);
        fault(2, 0, one + "!20");
        fault(2, 0, one + "!0");
        fault(2, 0, one + "17 5 !1 97 0 0 0 0 0");
        fault(8, 0, one + "17 3 0 !0 0 0 0");
        fault(8, 0, two + "17 7 0 97 0 0 0 !0 0 0 0");
        fault(8, 0, one + "17 45 0 !" + full + "1 0 0 0 0 0");
        fault(1, 0, one + "17 45 0 " + full + "1 !");
        fault(8, 0, two + "17 47 0 97 0 0 0 !" + full + "0 1 0 0 0 0");
        fault(5, 0, one + "17 !4 0 97 0 0 0 0 0");
        fault(5, 0, one + "17 !6 0 97 0 0 0 0 0");
        fault(5, 0, one + "17 !0 0 97 0 0 0 0 0");
        fault(5, 0, two + "17 !5 0 97 0 0 0 98 0 0 0 0 0");
        fault(5, 0, one + "17 !255 0 0 0 0 0 0 0 1 0 97 0 0 0 0 0");
        fault(2, 0, one + "17 !128 5 0 97 0 0 0 0 0");
        // What belongs to a length is judged ahead of it.
        fault(8, 0, one + "17 9 0 !0 0 0 0");
        fault(2, 0, one + "17 9 !2 0 0 0 0");
        fault(2, 0, one + "17 0 !2 0 0 0 0");
        fault(1, 0, one + "17 9 0 97 0 0 !");
        fault(1, 0, one + "17 5 0 97 0 98 0 !");
    }

    private static void values() {
        String two = "1 5 2 14 1 192 17 9 0 97 0 0 0 98 0 0 0 ";
        right(0, two + "20 18 1 0 1 1 1 1 1 1 1 1 2 2 2 2 2 2 2 2 0 0", 2);
        right(0, two + "20 11 0 64 0 1 1 1 1 1 1 1 1 21 10 1 0 1 1 1 1 2 2 2 2 0 0", 2);
        right(0, two + "21 7 0 128 0 1 1 1 1 0 0", 2);
        fault(2, 0, two + "!17");
        fault(2, 0, two + "!14");
        fault(2, 0, two + "!1");
        fault(2, 0, two + "20 18 !2 0");
        fault(2, 0, two + "20 18 1 !1");
        fault(2, 0, two + "!20 3 0 0 0 0 0");
        fault(2, 0, two + "20 19 !0 192 0 1 1 1 1 1 1 1 1 2 2 2 2 2 2 2 2 0 0");
        fault(2, 0, two + "20 11 0 !65 0");
        fault(2, 0, two + "20 11 0 !32 0");
        fault(2, 0, two + "20 11 0 64 !1");
        fault(5, 0, two + "20 !10 0 64 0 1 1 1 1 1 1 1 1 0 0");
        fault(5, 0, two + "20 !12 0 64 0 1 1 1 1 1 1 1 1 0 0");
        fault(5, 0, two + "20 !0 1 0 1 1 1 1 1 1 1 1 2 2 2 2 2 2 2 2 0 0");
        fault(2, 0, two + "20 !128 18 1 0");
        fault(1, 0, two + "20 5 1 0 1 1 1 1 1 1 1 1 2 2 2 2 2 2 2 !");
        fault(2, 0, two + "20 5 !3 0");
        fault(2, 0, two + "20 0 !3 0");
        fault(2, 0, two + "20 11 0 64 0 1 1 1 1 1 1 1 1 !20");
        fault(2, 0, two + "!21 3 0 0 0 0 0");
        fault(2, 0, two + "21 11 !0 192 0 1 1 1 1 2 2 2 2 0 0");
        fault(5, 0, two + "21 !8 0 64 0 1 1 1 1 0 0");
        fault(5, 0, two + "21 !18 1 0 1 1 1 1 2 2 2 2 0 0");
        fault(2, 0, two + "21 7 0 64 0 1 1 1 1 !20 18 1 0");
        fault(2, 0, two + "21 7 0 64 0 1 1 1 1 !21");
        fault(2, 0, two + "21 7 0 64 0 1 1 1 1 !255");
        fault(2, 0, two + "21 7 !255 64 0 1 1 1 1");
    }

    private static void ends() {
        fault(2, 0, ONE_FILE.substring(0, ONE_FILE.length() - 1) + "!1");
        fault(6, 0, ONE_FILE + " !0");
        fault(6, 0, ONE_FILE + " !7 7 7");
        fault(6, 2, BYTES + " !0");
    }

    /** Bytes that can be just one: any other is a FAULT at them. */
    private static void literals() {
        String[] words = BYTES.trim().split("\\s+");
        for (int i : new int[] {0, 1, 2, 5, 7, 8, 9, 11, 15, 17, 18, 20, 25, 26, 27, 31, 37}) {
            for (int v = 0; v < 256; v += 1 + v % 3) {
                if (v != Integer.parseInt(words[i])) {
                    StringBuilder text = new StringBuilder();
                    for (int k = 0; k < words.length; k++) {
                        text.append(k == i ? "!" + v : words[k]).append(' ');
                    }
                    fault(2, 2, text.toString());
                }
            }
        }
    }

    /** A header that ends early wants bytes at the tape's length, wherever it ends. */
    private static void cuts() {
        String[] whole = {ONE_FILE, BYTES,
            "1 4 6 0 2 9 4 3 0 7 11 2 0 3 33 3 1 9 1 0 4 1 2 3 4 2 0 1 2 1 1 0 12 9 7 5 3 0 8 13 2 1 9 2 10 1"
            + " 1 2 3 4 5 6 7 8 29 128 188 85 0 0 5 4 14 1 16 15 1 128 16 1 128 17 17 0 97 0 0 0 98 0 0 0 99 0 0 0 100 0 0 0"
            + " 20 11 0 64 0 1 1 1 1 1 1 1 1 21 18 1 0 1 1 1 1 1 1 1 1 1 1 1 1 1 1 1 1 0 0"};
        int[] packed = {0, 2, 7};
        int[] entries = {1, 1, 4};
        for (int w = 0; w < whole.length; w++) {
            right(packed[w], whole[w], entries[w]);
            String[] words = whole[w].trim().split("\\s+");
            for (int n = 1; n < words.length; n++) {
                fault(1, packed[w], String.join(" ", Arrays.copyOf(words, n)) + " !");
            }
        }
    }
}
