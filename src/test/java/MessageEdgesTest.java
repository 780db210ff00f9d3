/** Section "Terms", 2, parts, messages, vessels: each sentence of the document that names an edge has a test of its own. */
public final class MessageEdgesTest {
    private static final String VDM = "!AIVDM,1,1,,A,1,0";

    /** Number in vessel (-1: no name; 30 and more: a text), bits, 1 if it has a sign: as the document lists them. */
    static final int[][] OF_1 = {{2, 4, 0}, {3, 8, 1}, {4, 10, 0}, {5, 1, 0}, {6, 28, 1}, {7, 27, 1}, {8, 12, 0}, {9, 9, 0},
        {10, 6, 0}, {-1, 25, 0}};
    static final int[][] OF_4 = {{11, 14, 0}, {12, 4, 0}, {13, 5, 0}, {14, 5, 0}, {15, 6, 0}, {10, 6, 0}, {5, 1, 0}, {6, 28, 1},
        {7, 27, 1}, {-1, 4, 0}, {-1, 30, 0}};
    static final int[][] OF_5 = {{-1, 2, 0}, {16, 30, 0}, {30, 42, 0}, {31, 120, 0}, {17, 8, 0}, {18, 9, 0}, {19, 9, 0}, {20, 6, 0},
        {21, 6, 0}, {-1, 4, 0}, {12, 4, 0}, {13, 5, 0}, {14, 5, 0}, {15, 6, 0}, {22, 8, 0}, {32, 120, 0}, {-1, 2, 0}};
    static final int[][] OF_18 = {{-1, 8, 0}, {4, 10, 0}, {5, 1, 0}, {6, 28, 1}, {7, 27, 1}, {8, 12, 0}, {9, 9, 0}, {10, 6, 0},
        {-1, 29, 0}};

    public static void main(String[] args) {
        many();
        partOfMany();
        ids();
        channels();
        packLengths();
        packSigns();
        fills();
        bitsOfASign();
        bitsLeftOut();
        keptForEachId();
        partOne();
        partsBehind();
        anotherMany();
        notJustThoseAhead();
        partMany();
        layouts();
        heads();
        types();
        lengths();
        fewerThanHead();
        signsOfTexts();
        endsOfTexts();
        blanksAtTheEnd();
        forty();
        asTheyCameFirst();
        whatATypeHas();
        notTold();
        Bench.finish();
    }

    static int[][] layout(int type) {
        return type == 4 ? OF_4 : type == 5 ? OF_5 : type == 18 ? OF_18 : OF_1;
    }

    /** A message in as few parts as can be. */
    static String message(String bits) {
        return bits.length() <= 360 ? Bench.one(bits) : VesselTest.two("1", bits);
    }

    private static void due(boolean taken, int f, String content) {
        for (String form : new String[] {VDM, "!AIVDO,1,1,,A,1,0"}) {
            Bench.becomes(Bench.whole(Bench.with(form, f, content)), taken ? "1 0 0 0 0, 0" : "0 0 0 0 1, 0");
        }
    }

    private static void many() {
        Bench.says("MANY 1 .. 9; .. a digit each");
        for (char c : Bench.FIELD_SIGNS.toCharArray()) {
            due(c >= '1' && c <= '9', 1, "" + c);
        }
        for (String content : new String[] {"", "01", "10", "11", "1.", "-1", " 1"}) {
            due(false, 1, content);
        }
    }

    private static void partOfMany() {
        Bench.says("PART 1 .. MANY, a digit each");
        for (int many = 0; many <= 9; many++) {
            for (char c : Bench.FIELD_SIGNS.toCharArray()) {
                due(c >= '1' && c <= '0' + many, 1, many + "," + c);
            }
            due(false, 1, many + ",");
            due(false, 1, many + ",01");
            due(false, 1, many + ",11");
        }
        due(false, 1, ",");
    }

    private static void ids() {
        Bench.says("ID: a digit or empty");
        due(true, 3, "");
        for (char c : Bench.FIELD_SIGNS.toCharArray()) {
            due(c >= '0' && c <= '9', 3, "" + c);
        }
        due(false, 3, "00");
        due(false, 3, "10");
        due(false, 3, "-1");
    }

    private static void channels() {
        Bench.says("CHANNEL: A, B, 1, 2 or empty");
        due(true, 4, "");
        for (char c : Bench.FIELD_SIGNS.toCharArray()) {
            due("AB12".indexOf(c) >= 0, 4, "" + c);
        }
        due(false, 4, "AB");
        due(false, 4, "12");
        due(false, 4, "AA");
    }

    private static void packLengths() {
        Bench.says("PACK: 1 to 60 signs");
        for (int n = 0; n <= 62; n++) {
            due(n >= 1 && n <= 60, 5, "0".repeat(n));
            due(n >= 1 && n <= 60, 5, "w".repeat(n));
        }
    }

    private static void packSigns() {
        Bench.says("PACK: .. signs 48 .. 87, 96 .. 119");
        for (char c : Bench.FIELD_SIGNS.toCharArray()) {
            boolean fits = c >= 48 && c <= 87 || c >= 96 && c <= 119;
            due(fits, 5, "" + c);
            due(fits, 5, c + "00");
            due(fits, 5, "0" + c + "0");
            due(fits, 5, "0".repeat(59) + c);
        }
    }

    private static void fills() {
        Bench.says("FILL 0 .. 5");
        for (char c : Bench.FIELD_SIGNS.toCharArray()) {
            due(c >= '0' && c <= '5', 6, "" + c);
        }
        for (String content : new String[] {"", "00", "05", "10", "-0", "5."}) {
            due(false, 6, content);
        }
    }

    private static void bitsOfASign() {
        Bench.says("A sign c of PACK is c - 48, less 8 if that is above 40: six bits, the highest first");
        for (int c = 48; c <= 119; c++) {
            if (c < 88 || c > 95) {
                int six = c <= 87 ? c - 48 : c - 56;
                SeaReceiver r = Bench.heard(Bench.whole("!AIVDM,1,1,,A,0" + (char) c + "w,0"));
                Bench.due("sign " + c, six, () -> r.bits(6, 6));
                Bench.due("and its neighbours", six << 6 | 63, () -> r.bits(0, 18));
                for (int b = 0; b < 6; b++) {
                    int at = b;
                    Bench.due("sign " + c + ", bit " + b, six >> 5 - b & 1, () -> r.bits(6 + at, 1));
                }
            }
        }
        // The edges of the two rows: 0 is nought, W 39, ` 40, w 63.
        Bench.due("0W`w", 39 << 12 | 40 << 6 | 63, () -> Bench.heard(Bench.whole("!AIVDM,1,1,,A,0W`w,0")).bits(0, 24));
    }

    private static void bitsLeftOut() {
        Bench.says("of the last ones FILL are left out");
        for (int signs : new int[] {1, 2, 5, 6, 11, 60}) {
            for (int fill = 0; fill <= 5; fill++) {
                String pack = "0".repeat(signs - 1) + "w";
                SeaReceiver r = Bench.heard(Bench.whole("!AIVDM,1,1,,A," + pack + "," + fill));
                int length = 6 * signs - fill;
                Bench.due("the last one of " + length, 1, () -> r.bits(length - 1, 1));
                Bench.due("behind it", Bench.NO_SUCH, () -> r.bits(length, 1));
                // In a part that is not the last one they are left out, too.
                Bench.hear(r, Bench.whole("!AIVDM,2,1,,A," + pack + "," + fill) + Bench.whole("!AIVDM,2,2,,A,0,5"));
                Bench.due("with a nought behind", 2, () -> r.bits(length - 1, 2));
                Bench.due("behind both", Bench.NO_SUCH, () -> r.bits(length + 1, 1));
            }
        }
    }

    /** Odd ones, lost ones, parts that are kept. */
    private static void dueParts(String when, SeaReceiver r, int odd, int lost, int kept) {
        Bench.due(when, odd + " " + lost + " " + kept, r.count(6) + " " + r.count(7) + " " + r.count(13));
    }

    private static void keptForEachId() {
        Bench.says("PARTS are kept for each ID (empty is one, too)");
        String[] ids = {"", "0", "1", "2", "3", "4", "5", "6", "7", "8", "9"};
        SeaReceiver r = new SeaReceiver();
        for (int i = 0; i < ids.length; i++) {
            Bench.hear(r, Bench.part(3, 1, ids[i], Bench.bin(i, 5)));
            dueParts("first part of ID " + ids[i], r, 0, 0, i + 1);
        }
        for (int i = 0; i < ids.length; i++) {
            Bench.hear(r, Bench.part(3, 2, ids[i], Bench.bin(15 - i, 5)));
            dueParts("second part of ID " + ids[i], r, 0, 0, ids.length + i + 1);
        }
        for (int i = 0; i < ids.length; i++) {
            int due = i << 10 | 15 - i << 5 | 31 - i;
            Bench.hear(r, Bench.part(3, 3, ids[i], Bench.bin(31 - i, 5)));
            dueParts("third part of ID " + ids[i], r, i + 1, 0, 2 * (ids.length - 1 - i));
            Bench.due("the message of ID " + ids[i], due, () -> r.bits(0, 15));
        }
    }

    private static void partOne() {
        Bench.says("PART 1: what was kept is gone (one LOST more, if anything was), and this is kept");
        SeaReceiver r = Bench.heard(Bench.part(3, 1, "4", "1"));
        dueParts("nothing was kept", r, 0, 0, 1);
        Bench.hear(r, Bench.part(3, 1, "4", "01"));
        dueParts("one was kept", r, 0, 1, 1);
        Bench.hear(r, Bench.part(3, 2, "4", "0") + Bench.part(2, 1, "4", "001"));
        dueParts("two were kept: one lost", r, 0, 2, 1);
        Bench.hear(r, Bench.part(2, 2, "4", "11"));
        dueParts("whole", r, 1, 2, 0);
        Bench.due("the latest first part", 0b00111, () -> r.bits(0, 5));
        Bench.due("and no more", Bench.NO_SUCH, () -> r.bits(0, 6));
        Bench.hear(r, Bench.part(1, 1, "4", "1"));
        dueParts("a whole one, nothing kept", r, 2, 2, 0);
        Bench.hear(r, Bench.part(9, 1, "4", "1") + Bench.part(1, 1, "4", "0"));
        dueParts("a whole one, one kept", r, 3, 3, 0);
        Bench.due("the whole one alone", 0, () -> r.bits(0, 1));
        Bench.due("the whole one alone", Bench.NO_SUCH, () -> r.bits(0, 2));
        Bench.hear(r, Bench.part(2, 1, "4", "1") + Bench.part(2, 1, "", "1") + Bench.part(2, 1, "", "1"));
        dueParts("another ID loses none", r, 3, 4, 2);
    }

    private static void partsBehind() {
        Bench.says("Another one: if MANY is the same, and just the PARTS ahead of it are kept, it comes behind them");
        for (int many = 2; many <= 9; many++) {
            SeaReceiver r = new SeaReceiver();
            for (int part = 1; part <= many; part++) {
                Bench.hear(r, Bench.part(many, part, "", Bench.bin(part, 4)));
                dueParts("part " + part + " of " + many, r, part == many ? 1 : 0, 0, part == many ? 0 : part);
            }
            for (int part = 1; part <= many; part++) {
                int p = part;
                Bench.due("bits of part " + part + " of " + many, part, () -> r.bits(4 * p - 4, 4));
            }
            int length = 4 * many;
            Bench.due("behind them", Bench.NO_SUCH, () -> r.bits(length, 1));
        }
        // Of 9 parts the longest: 3240 bits.
        SeaReceiver r = new SeaReceiver();
        for (int part = 1; part <= 9; part++) {
            Bench.hear(r, Bench.part(9, part, "9", "1".repeat(360)));
        }
        Bench.due("the longest", -1, () -> r.bits(3208, 32));
        Bench.due("behind the longest", Bench.NO_SUCH, () -> r.bits(3209, 32));
        dueParts("the longest", r, 1, 0, 0);
    }

    private static void anotherMany() {
        Bench.says("if MANY is the same .. else what was kept is gone, and it is passed over (one LOST more ..)");
        for (int many = 2; many <= 9; many++) {
            for (int other = 2; other <= 9; other++) {
                SeaReceiver r = Bench.heard(Bench.part(many, 1, "6", "1") + Bench.part(other, 2, "6", "1"));
                boolean same = many == other;
                dueParts(many + " and " + other, r, same && many == 2 ? 1 : 0, same ? 0 : 1, same && many > 2 ? 2 : 0);
            }
        }
    }

    private static void notJustThoseAhead() {
        Bench.says("just the PARTS ahead of it .. else what was kept is gone .. (one LOST more, whether anything was kept or not)");
        for (int kept = 0; kept <= 4; kept++) {
            for (int part = 2; part <= 5; part++) {
                SeaReceiver r = new SeaReceiver();
                for (int p = 1; p <= kept; p++) {
                    Bench.hear(r, Bench.part(5, p, "0", "1"));
                }
                Bench.due("a part is taken, whether it is kept or not", 1, Bench.hear(r, Bench.part(5, part, "0", "1")));
                boolean fits = part == kept + 1;
                dueParts(part + " behind " + kept, r, fits && part == 5 ? 1 : 0, fits ? 0 : 1, fits && part < 5 ? part : 0);
            }
        }
        SeaReceiver r = Bench.heard(Bench.part(2, 1, "1", "1") + Bench.part(2, 1, "2", "1") + Bench.part(3, 3, "1", "1"));
        dueParts("of its own ID alone", r, 0, 1, 1);
        Bench.hear(r, Bench.part(2, 2, "1", "1"));
        dueParts("what is gone stays so", r, 0, 2, 1);
        Bench.hear(r, Bench.part(2, 2, "", "1"));
        dueParts("the empty ID has none", r, 0, 3, 1);
    }

    private static void partMany() {
        Bench.says("When PART MANY has come, all bits together are a MESSAGE, and nothing is kept");
        SeaReceiver r = Bench.heard(Bench.part(3, 1, "5", "1") + Bench.part(3, 2, "5", "1"));
        Bench.due("none ahead of it", Bench.NO_SUCH, () -> r.bits(0, 1));
        Bench.hear(r, Bench.part(3, 3, "5", "1"));
        Bench.due("all together", 7, () -> r.bits(0, 3));
        dueParts("nothing is kept", r, 1, 0, 0);
        Bench.hear(r, Bench.part(3, 3, "5", "1"));
        dueParts("it comes once more", r, 1, 1, 0);
        Bench.hear(r, Bench.part(2, 1, "5", "1"));
        dueParts("a new first one loses nothing", r, 1, 1, 1);
    }

    /** A message of a type all of whose bits but those of one field are the same. */
    private static String only(int type, int field, String bits, char others) {
        StringBuilder b = new StringBuilder(Bench.head(type, 77));
        int[][] layout = layout(type);
        for (int i = 0; i < layout.length; i++) {
            b.append(i == field ? bits : ("" + others).repeat(layout[i][1]));
        }
        return b.toString();
    }

    private static void layouts() {
        Bench.says("then by TYPE, in order (s: with a sign, the highest bit; all others without)");
        for (int type : new int[] {1, 2, 3, 4, 5, 18}) {
            int[][] layout = layout(type);
            for (int i = 0; i < layout.length; i++) {
                int n = layout[i][1];
                boolean isSigned = layout[i][2] == 1;
                if (layout[i][0] < 30) {
                    String ones = "1".repeat(n);
                    String noughts = "0".repeat(n);
                    long full = (1L << n) - 1;
                    dueField(type, i, ones, '0', isSigned ? -1 : full);
                    dueField(type, i, noughts, '1', 0);
                    dueField(type, i, "1" + noughts.substring(1), '0', isSigned ? -(1L << n - 1) : 1L << n - 1);
                    dueField(type, i, "0" + ones.substring(1), '1', full >> 1);
                    dueField(type, i, noughts.substring(1) + "1", '0', isSigned && n == 1 ? -1 : 1);
                }
            }
        }
    }

    private static void dueField(int type, int field, String bits, char others, long want) {
        SeaReceiver r = Bench.heard(message(only(type, field, bits, others)));
        int[][] layout = layout(type);
        Bench.due("type " + type, 1, r.count(5));
        for (int i = 0; i < layout.length; i++) {
            int what = layout[i][0];
            if (what >= 0 && what < 30) {
                long full = layout[i][2] == 1 ? -1 : (1L << layout[i][1]) - 1;
                long due = i == field ? want : others == '0' ? 0 : full;
                Bench.due("type " + type + ", field " + field + " " + bits + ", vessel " + what, due, () -> r.vessel(0, what));
            }
        }
    }

    private static void heads() {
        Bench.says("A MESSAGE: TYPE (6 bits), 2 bits, MMSI (30 bits)");
        for (int mmsi : new int[] {0, 1, 1 << 29, (1 << 30) - 1, (1 << 29) - 1, 227006760}) {
            for (String two : new String[] {"00", "01", "10", "11"}) {
                SeaReceiver r = Bench.heard(Bench.one(Bench.bin(18, 6) + two + Bench.bin(mmsi, 30) + VesselTest.EIGHTEEN));
                Bench.due("TYPE", 18, () -> r.vessel(0, 1));
                Bench.due("MMSI", mmsi, () -> r.vessel(0, 0));
                Bench.due("find", 0, r.find(mmsi));
            }
        }
    }

    private static void types() {
        Bench.says("ODD: another TYPE");
        for (int type = 0; type < 64; type++) {
            SeaReceiver r = Bench.heard(Bench.one(Bench.head(type, 7) + "0".repeat(130)));
            boolean known = type >= 1 && type <= 4 || type == 18;
            Bench.due("type " + type + " of 168", known ? "1 0 1" : "0 1 0", r.count(5) + " " + r.count(6) + " " + r.count(9));
            SeaReceiver s = Bench.heard(VesselTest.two("", Bench.head(type, 7) + "0".repeat(386)));
            Bench.due("type " + type + " of 424", type == 5 ? "1 0 1" : "0 1 0", s.count(5) + " " + s.count(6) + " " + s.count(9));
        }
    }

    private static void lengths() {
        Bench.says("ODD: .. another number of bits (1, 2, 3: 168; 4: 168; 5: 424; 18: 168)");
        for (int type : new int[] {1, 2, 3, 4, 5, 18}) {
            int right = type == 5 ? 424 : 168;
            for (int length = 1; length <= 440; length++) {
                SeaReceiver r = Bench.heard(message((Bench.head(type, 7) + "1".repeat(402)).substring(0, length)));
                String due = length == right ? "1 0 1" : "0 1 0";
                Bench.due("type " + type + " of " + length, due, r.count(5) + " " + r.count(6) + " " + r.count(9));
            }
        }
    }

    private static void fewerThanHead() {
        Bench.says("ODD: .. (also fewer than 38)");
        for (int length = 1; length <= 38; length++) {
            String bits = Bench.head(1, 0x3FFFFFFF).substring(0, length);
            SeaReceiver r = Bench.heard(Bench.one(bits));
            Bench.due("of " + length, "0 1 0", r.count(5) + " " + r.count(6) + " " + r.count(9));
            int n = Math.min(length, 32);
            int at = length - n;
            Bench.due("its bits", (int) Long.parseLong(bits.substring(at), 2), () -> r.bits(at, n));
        }
    }

    private static String five(String callBits, String nameBits, String goalBits) {
        return Bench.head(5, 7) + "0".repeat(32) + callBits + nameBits + "0".repeat(70) + goalBits + "00";
    }

    private static String sixes(int... values) {
        StringBuilder b = new StringBuilder();
        for (int v : values) {
            b.append(Bench.bin(v, 6));
        }
        return b.toString();
    }

    private static String filled(String bits, int signs, int six) {
        return bits + Bench.bin(six, 6).repeat(signs - bits.length() / 6);
    }

    private static void signsOfTexts() {
        Bench.says("A sign is 6 bits v: v + 64 if v is below 32, else v");
        for (int v = 1; v < 64; v++) {
            String six = Bench.bin(v, 6);
            SeaReceiver r = Bench.heard(message(five(six.repeat(6) + sixes(1), six.repeat(19) + sixes(33), six.repeat(19) + sixes(31))));
            int due = v < 32 ? v + 64 : v;
            for (int text = 0; text < 3; text++) {
                int last = text == 0 ? 6 : 19;
                Bench.due("first of " + v, due, r.letter(0, text, 0));
                Bench.due("last but one of " + v, due, r.letter(0, text, last - 1));
                Bench.due("last", text == 0 ? 65 : text == 1 ? 33 : 95, r.letter(0, text, last));
                Bench.due("behind it", Bench.NONE, r.letter(0, text, last + 1));
            }
        }
    }

    private static void endsOfTexts() {
        Bench.says("a text ends at its first v of 0");
        for (int end = 0; end <= 20; end++) {
            int call = Math.min(end, 7);
            // Behind the first nought stand signs again, which are no more of the text.
            String twenty = end == 20 ? sixes(2).repeat(20) : filled(sixes(2).repeat(end) + sixes(0), 20, 3);
            String seven = call == 7 ? sixes(2).repeat(7) : filled(sixes(2).repeat(call) + sixes(0), 7, 3);
            SeaReceiver r = Bench.heard(message(five(seven, twenty, twenty)));
            Bench.due("CALL", "B".repeat(call), Bench.text(r, 0, 0));
            Bench.due("NAME", "B".repeat(end), Bench.text(r, 0, 1));
            Bench.due("GOAL", "B".repeat(end), Bench.text(r, 0, 2));
            Bench.due("behind CALL", Bench.NONE, r.letter(0, 0, call));
            Bench.due("behind NAME", Bench.NONE, r.letter(0, 1, end));
            Bench.due("behind GOAL", Bench.NONE, r.letter(0, 2, end));
        }
    }

    private static void blanksAtTheEnd() {
        Bench.says("blanks (32) at its end are left out");
        for (int n = 0; n <= 20; n++) {
            int call = Math.min(n, 7);
            String full = filled(sixes(2).repeat(n), 20, 32);
            String ended = n == 20 ? full : sixes(2).repeat(n) + sixes(32).repeat(19 - n) + sixes(0);
            SeaReceiver r = Bench.heard(message(five(filled(sixes(2).repeat(call), 7, 32), full, ended)));
            Bench.due("up to its end, CALL", "B".repeat(call), Bench.text(r, 0, 0));
            Bench.due("up to its end, NAME", "B".repeat(n), Bench.text(r, 0, 1));
            Bench.due("up to a nought, GOAL", "B".repeat(n), Bench.text(r, 0, 2));
            Bench.due("the first blank", Bench.NONE, r.letter(0, 1, n));
        }
        SeaReceiver r = Bench.heard(message(five(sixes(32, 2, 32, 32, 2, 32, 32), filled(sixes(32, 32, 0, 2), 20, 2),
            filled(sixes(32, 32, 2, 32, 0, 32, 2), 20, 32))));
        Bench.due("ahead and between they stay", " B  B", Bench.text(r, 0, 0));
        Bench.due("blanks alone", "", Bench.text(r, 0, 1));
        Bench.due("the end is at the nought", "  B", Bench.text(r, 0, 2));
        Bench.due("33 is no blank", "!", Bench.text(Bench.heard(message(five(sixes(33, 32, 32, 32, 32, 32, 32), "0".repeat(120),
            "0".repeat(120)))), 0, 0));
        Bench.due("31 is no blank", "_", Bench.text(Bench.heard(message(five(sixes(31, 32, 32, 32, 32, 32, 32), "0".repeat(120),
            "0".repeat(120)))), 0, 0));
    }

    private static void forty() {
        Bench.says("THE TABLE of VESSELS: at most 40 .. (if there are 40, it is MISSED)");
        SeaReceiver r = new SeaReceiver();
        for (int v = 0; v < 40; v++) {
            Bench.hear(r, Bench.one(Bench.head(18, v) + VesselTest.EIGHTEEN));
        }
        Bench.due("forty", "40 0 40 0", r.count(5) + " " + r.count(6) + " " + r.count(9) + " " + r.count(8));
        Bench.due("the fortieth", 39, () -> r.vessel(39, 0));
        Bench.hear(r, Bench.one(Bench.head(18, 40) + VesselTest.EIGHTEEN));
        Bench.due("one more", "41 0 40 1", r.count(5) + " " + r.count(6) + " " + r.count(9) + " " + r.count(8));
        Bench.due("it is not there", Bench.NONE, r.find(40));
        Bench.due("it is not there", Bench.NO_SUCH, () -> r.vessel(40, 0));
        Bench.hear(r, Bench.one(Bench.head(1, 40) + VesselTest.ONE));
        Bench.due("missed again", "42 0 40 2", r.count(5) + " " + r.count(6) + " " + r.count(9) + " " + r.count(8));
        Bench.due("a missed one is the latest message: its type", 1, () -> r.bits(0, 6));
        Bench.due("a missed one is the latest message: its MMSI", 40, () -> r.bits(8, 30));
        Bench.hear(r, Bench.one(Bench.head(1, 39) + VesselTest.ONE) + Bench.one(Bench.head(2, 0) + VesselTest.ONE));
        Bench.due("those that are there", "44 0 40 2", r.count(5) + " " + r.count(6) + " " + r.count(9) + " " + r.count(8));
        Bench.due("the fortieth has two", 2, () -> r.vessel(39, 23));
        Bench.due("the first has two", 2, () -> r.vessel(0, 23));
        Bench.due("the second has one", 1, () -> r.vessel(1, 23));
        Bench.hear(r, Bench.one(Bench.head(6, 40) + VesselTest.ONE));
        Bench.due("an odd one is not missed", "44 1 40 2", r.count(5) + " " + r.count(6) + " " + r.count(9) + " " + r.count(8));
    }

    private static void asTheyCameFirst() {
        Bench.says("by MMSI, as they came first");
        SeaReceiver r = new SeaReceiver();
        int[] mmsis = {5, 3, 5, 9, 3, 0, 5, 1073741823, 1};
        for (int mmsi : mmsis) {
            Bench.hear(r, Bench.one(Bench.head(18, mmsi) + VesselTest.EIGHTEEN));
        }
        int[] order = {5, 3, 9, 0, 1073741823, 1};
        int[] messages = {3, 2, 1, 1, 1, 1};
        Bench.due("vessels", order.length, r.count(9));
        for (int v = 0; v < order.length; v++) {
            int one = v;
            Bench.due("find " + order[v], v, r.find(order[v]));
            Bench.due("vessel " + v, order[v], () -> r.vessel(one, 0));
            Bench.due("messages of vessel " + v, messages[v], () -> r.vessel(one, 23));
        }
    }

    private static void whatATypeHas() {
        Bench.says("what its TYPE has becomes the VESSEL's; LAST is its TYPE");
        int[] types = {1, 2, 3, 4, 5, 18};
        for (int first : types) {
            for (int second : types) {
                SeaReceiver r = Bench.heard(message(only(first, -1, "", '1')));
                Bench.hear(r, message(only(second, -1, "", '0')));
                Bench.due("LAST", second, () -> r.vessel(0, 1));
                Bench.due("MESSAGES", 2, () -> r.vessel(0, 23));
                for (int what = 2; what <= 32; what++) {
                    if (what < 23 || what > 29) {
                        int w = what;
                        long due = has(second, what) >= 0 ? 0 : has(first, what) >= 0 ? full(first, what) : what < 30 ? Bench.NONE : 0;
                        Bench.due(first + " and " + second + ", vessel " + what, due, () -> r.vessel(0, w));
                    }
                }
            }
        }
    }

    private static int has(int type, int what) {
        int[][] layout = layout(type);
        for (int i = 0; i < layout.length; i++) {
            if (layout[i][0] == what) {
                return i;
            }
        }
        return -1;
    }

    /** The value of a field all of whose bits are 1, or how many signs its text has. */
    private static long full(int type, int what) {
        int[] field = layout(type)[has(type, what)];
        return what >= 30 ? field[1] / 6 : field[2] == 1 ? -1 : (1L << field[1]) - 1;
    }

    private static void notTold() {
        Bench.says("(Of one that was not told: NONE; a text is empty.)");
        for (int type : new int[] {1, 2, 3, 4, 5, 18}) {
            SeaReceiver r = Bench.heard(message(only(type, -1, "", '1')));
            for (int what = 2; what <= 22; what++) {
                int w = what;
                Bench.due("type " + type + ", vessel " + what, has(type, what) >= 0 ? full(type, what) : Bench.NONE, () -> r.vessel(0, w));
            }
            for (int text = 0; text < 3; text++) {
                int w = 30 + text;
                int signs = type != 5 ? 0 : text == 0 ? 7 : 20;
                Bench.due("type " + type + ", text " + text, signs, () -> r.vessel(0, w));
                Bench.due("type " + type + ", letter of " + text, type == 5 ? '?' : Bench.NONE, r.letter(0, text, 0));
            }
        }
    }
}
