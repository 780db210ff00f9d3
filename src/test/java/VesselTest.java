/** Promises 7 to 10: find, vessel, letter, bits; and the parts of messages (promises 4, 5). */
public final class VesselTest {
    static final String ONE = Bench.bin(7, 4) + Bench.bin(-127, 8) + Bench.bin(1023, 10) + "1" + Bench.bin(-1, 28)
        + Bench.bin(-67108864, 27) + Bench.bin(4095, 12) + Bench.bin(511, 9) + Bench.bin(63, 6) + Bench.bin(-1, 25);
    static final String FOUR = Bench.bin(16383, 14) + Bench.bin(12, 4) + Bench.bin(31, 5) + Bench.bin(23, 5)
        + Bench.bin(59, 6) + Bench.bin(58, 6) + "0" + Bench.bin(134217727, 28) + Bench.bin(67108863, 27)
        + Bench.bin(0, 34);
    static final String EIGHTEEN = Bench.bin(-1, 8) + Bench.bin(512, 10) + "0" + Bench.bin(-134217728, 28)
        + Bench.bin(-1, 27) + Bench.bin(2048, 12) + Bench.bin(256, 9) + Bench.bin(32, 6) + Bench.bin(-1, 29);

    public static void main(String[] args) {
        partFields();
        partsInOrder();
        longestMessage();
        values();
        texts();
        odd();
        bits();
        table();
        Bench.finish();
    }

    static String five(String call, String name, String goal) {
        return "11" + Bench.bin(1073741823, 30) + Bench.sixes(call, 7) + Bench.sixes(name, 20) + Bench.bin(255, 8)
            + Bench.bin(511, 9) + Bench.bin(510, 9) + Bench.bin(63, 6) + Bench.bin(62, 6) + "1111" + Bench.bin(15, 4)
            + Bench.bin(30, 5) + Bench.bin(29, 5) + Bench.bin(61, 6) + Bench.bin(254, 8) + Bench.sixes(goal, 20) + "11";
    }

    /** In two parts, the first one with 60 signs. */
    static String two(String id, String bits) {
        return Bench.part(2, 1, id, bits.substring(0, 360)) + Bench.part(2, 2, id, bits.substring(360));
    }

    private static void partFields() {
        String[] good = {
            "1,1,,,0,0", "1,1,0,A,W,5", "1,1,9,B,`,1", "9,1,,1,w,0", "1,1,,2," + "0".repeat(60) + ",0", "9,9,5,,1,0"
        };
        String[] faulty = {
            "0,1,,,0,0", ",1,,,0,0", "1,,,,0,0", "1,0,,,0,0", "1,2,,,0,0", "8,9,,,0,0", "01,1,,,0,0", "1,01,,,0,0", "a,1,,,0,0",
            "1,a,,,0,0", "1,1,00,,0,0", "1,1,a,,0,0", "1,1,,C,0,0", "1,1,,a,0,0", "1,1,,3,0,0", "1,1,,AB,0,0", "1,1,,,,0",
            "1,1,,,/,0", "1,1,,,X,0", "1,1,,,_,0", "1,1,,,x,0", "1,1,,," + "0".repeat(61) + ",0", "1,1,,,0,", "1,1,,,0,6",
            "1,1,,,0,00", "1,1,,,0,-1", "1,1,,,0", "1,1,,,0,0,", ":,1,,,0,0", "1,1,:,,0,0", "1,1, ,,0,0"
        };
        for (String g : good) {
            SeaReceiver r = new SeaReceiver();
            Bench.due("4: good " + g, 1, Bench.hear(r, Bench.whole("!AIVDM," + g)));
        }
        for (String f : faulty) {
            SeaReceiver r = new SeaReceiver();
            Bench.hear(r, Bench.whole("!AIVDM,2,1,,A,0,0"));
            Bench.due("4: faulty " + f, 0, Bench.hear(r, Bench.whole("!AIVDO," + f)));
            Bench.due("5: faulty " + f, 1, r.count(4));
            Bench.due("5: nothing received " + f, 0, r.count(5) + r.count(6) + r.count(7));
            Bench.due("5: what was kept is kept " + f, 1, r.count(13));
        }
        for (int c = 32; c < 127; c++) {
            if (c != '$' && c != '!' && c != '*' && c != ',') {
                SeaReceiver r = new SeaReceiver();
                int v = c >= 48 && c <= 87 ? c - 48 : c >= 96 && c <= 119 ? c - 56 : -1;
                int taken = Bench.hear(r, Bench.whole("!AIVDM,1,1,,A," + (char) c + ",0"));
                Bench.due("4: sign " + c, v < 0 ? 0 : 1, taken);
                Bench.due("10: bits of sign " + c, v < 0 ? Bench.NO_SUCH : v, () -> r.bits(0, 6));
            }
        }
    }

    private static void counts(String what, SeaReceiver r, int odd, int lost, int kept) {
        Bench.due("5: odd, " + what, odd, r.count(6));
        Bench.due("5: lost, " + what, lost, r.count(7));
        Bench.due("5: kept, " + what, kept, r.count(13));
    }

    private static void partsInOrder() {
        SeaReceiver r = new SeaReceiver();
        Bench.hear(r, Bench.part(3, 1, "4", "1"));
        counts("one part", r, 0, 0, 1);
        Bench.hear(r, Bench.part(3, 2, "4", "0101"));
        counts("two parts", r, 0, 0, 2);
        Bench.hear(r, Bench.part(2, 1, "", "11"));
        counts("an empty id is another one", r, 0, 0, 3);
        Bench.hear(r, Bench.part(2, 2, "", "00"));
        counts("whole", r, 1, 0, 2);
        Bench.due("10: of the empty id", 12, () -> r.bits(0, 4));
        Bench.hear(r, Bench.part(3, 3, "4", "0000001"));
        counts("whole again", r, 2, 0, 0);
        Bench.due("10: 1 0101 0000001", 0b101010000001, () -> r.bits(0, 12));
        Bench.due("10: no more", Bench.NO_SUCH, () -> r.bits(0, 13));
        Bench.hear(r, Bench.part(2, 2, "4", "1"));
        counts("a part without the first", r, 2, 1, 0);
        Bench.hear(r, Bench.part(2, 1, "4", "1") + Bench.part(2, 1, "4", "0"));
        counts("the first one twice", r, 2, 2, 1);
        Bench.hear(r, Bench.part(3, 2, "4", "1"));
        counts("another many", r, 2, 3, 0);
        Bench.hear(r, Bench.part(4, 1, "4", "1") + Bench.part(4, 2, "4", "1") + Bench.part(4, 2, "4", "1"));
        counts("the second one twice", r, 2, 4, 0);
        Bench.hear(r, Bench.part(4, 1, "4", "1") + Bench.part(4, 3, "4", "1") + Bench.part(4, 4, "4", "1"));
        counts("one left out", r, 2, 6, 0);
        Bench.hear(r, Bench.part(2, 1, "4", "1") + Bench.part(1, 1, "4", "0"));
        counts("a whole one puts an end to parts", r, 3, 7, 0);
        Bench.due("10: of the whole one", 0, () -> r.bits(0, 1));
        Bench.hear(r, Bench.part(2, 1, "3", "1") + Bench.part(1, 1, "4", "0") + Bench.part(2, 2, "3", "1"));
        counts("another id puts no end to them", r, 5, 7, 0);
        Bench.due("10: both parts", 3, () -> r.bits(0, 2));
        Bench.hear(r, Bench.whole("!ABVDO,2,1,8,B,w,5") + Bench.whole("!AIVDM,2,2,8,A,0,0"));
        counts("the form and the channel may change", r, 6, 7, 0);
        Bench.due("10: fill in the first part", 64, () -> r.bits(0, 7));
        for (int id = 0; id <= 9; id++) {
            Bench.hear(r, Bench.part(9, 1, "" + id, "1"));
        }
        Bench.hear(r, Bench.part(9, 1, "", "1"));
        counts("all ids", r, 6, 7, 11);
    }

    private static void longestMessage() {
        SeaReceiver r = new SeaReceiver();
        for (int part = 1; part <= 9; part++) {
            Bench.due("4: long part", 1, Bench.hear(r, Bench.part(9, part, "0", ("00000" + part % 2).repeat(60))));
            Bench.due("5: kept", part == 9 ? 0 : part, r.count(13));
        }
        Bench.due("5: odd", 1, r.count(6));
        Bench.due("10: the last ones", 0x41041041, () -> r.bits(3240 - 31, 31));
        Bench.due("10: the last one", 1, () -> r.bits(3239, 1));
        Bench.due("10: across two parts", 0b000001000000, () -> r.bits(354, 12));
        Bench.due("10: behind the last one", Bench.NO_SUCH, () -> r.bits(3240, 1));
        Bench.hear(r, Bench.one("0"));
        Bench.due("10: a shorter one later", Bench.NO_SUCH, () -> r.bits(0, 2));
        Bench.hear(r, Bench.part(2, 1, "0", "1") + Bench.part(2, 2, "0", "0000000"));
        Bench.due("10: nothing is left of the long one", 128, () -> r.bits(0, 8));
    }

    private static void dueValues(String what, SeaReceiver r, int v, long... want) {
        for (int i = 0; i < want.length; i++) {
            int w = i;
            Bench.due("8: " + what + ", value " + i, want[i], () -> r.vessel(v, w));
        }
    }

    private static void values() {
        long n = Bench.NONE;
        for (int type = 1; type <= 3; type++) {
            SeaReceiver r = new SeaReceiver();
            Bench.due("4: type " + type, 1, Bench.hear(r, Bench.one(Bench.head(type, 1073741823) + ONE)));
            dueValues("type " + type, r, 0, 1073741823, type, 7, -127, 1023, 1, -1, -67108864, 4095, 511, 63,
                n, n, n, n, n, n, n, n, n, n, n, n, 1);
        }
        SeaReceiver r = new SeaReceiver();
        Bench.hear(r, Bench.one(Bench.head(4, 0) + FOUR));
        dueValues("type 4", r, 0, 0, 4, n, n, n, 0, 134217727, 67108863, n, n, 58, 16383, 12, 31, 23, 59,
            n, n, n, n, n, n, n, 1);
        Bench.due("7: MMSI 0", 0, r.find(0));
        Bench.hear(r, two("7", Bench.head(5, 2) + five("CALL", "NAME", "GOAL")));
        dueValues("type 5", r, 1, 2, 5, n, n, n, n, n, n, n, n, n, n, 15, 30, 29, 61,
            1073741823, 255, 511, 510, 63, 62, 254, 1);
        Bench.hear(r, Bench.one(Bench.head(18, 1) + EIGHTEEN));
        dueValues("type 18", r, 2, 1, 18, n, n, 512, 0, -134217728, -1, 2048, 256, 32,
            n, n, n, n, n, n, n, n, n, n, n, n, 1);
        Bench.hear(r, Bench.one(Bench.head(4, 2) + FOUR));
        dueValues("type 4 behind 5", r, 1, 2, 4, n, n, n, 0, 134217727, 67108863, n, n, 58, 16383, 12, 31, 23, 59,
            1073741823, 255, 511, 510, 63, 62, 254, 2);
        Bench.hear(r, Bench.one(Bench.head(1, 2) + ONE));
        dueValues("type 1 behind 4", r, 1, 2, 1, 7, -127, 1023, 1, -1, -67108864, 4095, 511, 63, 16383, 12, 31, 23, 59,
            1073741823, 255, 511, 510, 63, 62, 254, 3);
        Bench.due("8: its texts stay", "CALL", Bench.text(r, 1, 0));
        Bench.due("5: messages", 5, r.count(5));
        Bench.due("5: vessels", 3, r.count(9));
        for (int what : new int[] {-1, 24, 25, 29, 33, Integer.MIN_VALUE, Integer.MAX_VALUE}) {
            Bench.due("8: what " + what, Bench.NO_SUCH, () -> r.vessel(0, what));
        }
        for (int v : new int[] {-1, 3, 40, Integer.MIN_VALUE, Integer.MAX_VALUE}) {
            Bench.due("8: vessel " + v, Bench.NO_SUCH, () -> r.vessel(v, 0));
            Bench.due("9: vessel " + v, Bench.NONE, r.letter(v, 0, 0));
        }
        Bench.due("7: the second", 1, r.find(2));
        Bench.due("7: the third", 2, r.find(1));
        Bench.due("7: none", Bench.NONE, r.find(3));
        Bench.due("7: below 0", Bench.NONE, r.find(-1));
        Bench.due("7: NONE", Bench.NONE, r.find(Bench.NONE));
    }

    private static void dueTexts(SeaReceiver r, String call, String name, String goal) {
        Bench.due("9: CALL", call, Bench.text(r, 0, 0));
        Bench.due("9: NAME", name, Bench.text(r, 0, 1));
        Bench.due("9: GOAL", goal, Bench.text(r, 0, 2));
    }

    private static void texts() {
        SeaReceiver r = new SeaReceiver();
        Bench.hear(r, Bench.one(Bench.head(18, 9) + EIGHTEEN));
        dueTexts(r, "", "", "");
        Bench.hear(r, two("", Bench.head(5, 9) + five("ABCDEFG", "ABCDEFGHIJKLMNOPQRST", "UVWXYZ[\\]^_ !\"#$%&'(")));
        dueTexts(r, "ABCDEFG", "ABCDEFGHIJKLMNOPQRST", "UVWXYZ[\\]^_ !\"#$%&'(");
        Bench.due("9: behind the end", Bench.NONE, r.letter(0, 0, 7));
        Bench.due("9: behind the end", Bench.NONE, r.letter(0, 1, 20));
        Bench.due("9: ahead of it", Bench.NONE, r.letter(0, 1, -1));
        Bench.due("9: highest", Bench.NONE, r.letter(0, 1, Integer.MAX_VALUE));
        Bench.due("9: lowest", Bench.NONE, r.letter(0, 1, Integer.MIN_VALUE));
        for (int what : new int[] {-1, 3, 30, Integer.MIN_VALUE, Integer.MAX_VALUE}) {
            Bench.due("9: what " + what, Bench.NONE, r.letter(0, what, 0));
        }
        // @ is v of 0: what stands behind it is no more of the text.
        Bench.hear(r, two("1", Bench.head(5, 9) + five("  A  @B", "A B   ", "@XYZ")));
        dueTexts(r, "  A", "A B", "");
        Bench.hear(r, two("1", Bench.head(5, 9) + five("       ", " ".repeat(20), ")*+,-./0123456789:;<")));
        dueTexts(r, "", "", ")*+,-./0123456789:;<");
        Bench.hear(r, two("1", Bench.head(5, 9) + five("=>?", "B", "")));
        dueTexts(r, "=>?", "B", "");
        Bench.due("9: nothing of the longer one", Bench.NONE, r.letter(0, 2, 0));
    }

    private static void odd() {
        for (int type = 0; type < 64; type++) {
            for (int length : new int[] {6, 37, 38, 162, 167, 168, 169, 174, 360}) {
                SeaReceiver r = new SeaReceiver();
                String bits = (Bench.head(type, 5) + "0".repeat(400)).substring(0, length);
                Bench.due("4: taken", 1, Bench.hear(r, Bench.one(bits)));
                boolean known = length == 168 && (type >= 1 && type <= 4 || type == 18);
                Bench.due("5: known, " + type + " of " + length, known ? 1 : 0, r.count(5));
                Bench.due("5: odd, " + type + " of " + length, known ? 0 : 1, r.count(6));
                Bench.due("5: vessels, " + type + " of " + length, known ? 1 : 0, r.count(9));
                Bench.due("10: " + type + " of " + length, type, () -> r.bits(0, 6));
            }
            for (int length : new int[] {423, 424, 425}) {
                SeaReceiver r = new SeaReceiver();
                Bench.hear(r, two("2", (Bench.head(type, 5) + "0".repeat(400)).substring(0, length)));
                boolean known = length == 424 && type == 5;
                Bench.due("5: known, " + type + " of " + length, known ? 1 : 0, r.count(5));
                Bench.due("5: odd, " + type + " of " + length, known ? 0 : 1, r.count(6));
            }
        }
    }

    private static void bits() {
        SeaReceiver r = new SeaReceiver();
        String bits = Bench.head(18, 987654321) + EIGHTEEN;
        Bench.hear(r, Bench.one(bits));
        for (int n = 1; n <= 32; n++) {
            SeaReceiver one = Bench.heard(Bench.one(bits));
            for (int at = 0; at + n <= 168; at++) {
                int from = at;
                int width = n;
                int want = (int) Long.parseLong(bits.substring(at, at + n), 2);
                Bench.due("10: bits " + at + " " + n, want, () -> one.bits(from, width));
            }
        }
        int[][] none = {
            {168, 1}, {167, 2}, {137, 32}, {-1, 1}, {-1, 32}, {0, 0}, {0, -1}, {0, 33}, {168, 0}, {Integer.MAX_VALUE, 1},
            {Integer.MAX_VALUE, 32}, {Integer.MIN_VALUE, 1}, {Integer.MIN_VALUE, 32}, {0, Integer.MAX_VALUE},
            {0, Integer.MIN_VALUE}, {Integer.MAX_VALUE, Integer.MAX_VALUE}
        };
        for (int[] pair : none) {
            Bench.due("10: bits " + pair[0] + " " + pair[1], Bench.NO_SUCH, () -> r.bits(pair[0], pair[1]));
        }
        Bench.hear(r, Bench.part(2, 1, "5", "1"));
        Bench.due("10: a part is no message", 18, () -> r.bits(0, 6));
    }

    private static void table() {
        SeaReceiver r = new SeaReceiver();
        for (int v = 0; v < 40; v++) {
            Bench.due("5: vessels", v, r.count(9));
            Bench.hear(r, Bench.one(Bench.head(1, 1000 - v) + ONE));
        }
        Bench.due("5: forty", 40, r.count(9));
        Bench.hear(r, Bench.one(Bench.head(2, 5) + ONE));
        Bench.due("5: missed", 1, r.count(8));
        Bench.due("5: a missed one is not odd", 41, r.count(5));
        Bench.due("5: no more than forty", 40, r.count(9));
        Bench.due("7: it is not there", Bench.NONE, r.find(5));
        Bench.due("10: it is the latest", 2, () -> r.bits(0, 6));
        Bench.hear(r, Bench.one(Bench.head(18, 961) + EIGHTEEN));
        Bench.due("5: one that is there is not missed", 1, r.count(8));
        Bench.due("8: the last one", 18, () -> r.vessel(39, 1));
        Bench.due("8: its messages", 2, () -> r.vessel(39, 23));
        Bench.due("8: the 41st", Bench.NO_SUCH, () -> r.vessel(40, 0));
        for (int v = 0; v < 40; v++) {
            Bench.due("7: as they came", v, r.find(1000 - v));
        }
    }
}
