/** Promises 1 to 14, and section "Terms", 3, sending: each sentence that names an edge has a test of its own. */
public final class CallEdgesTest {
    private static final int LOWEST = Integer.MIN_VALUE;
    private static final int HIGHEST = Integer.MAX_VALUE;
    /** Sentences as ships sent them, their sums not made here. */
    private static final String SHIP = "!AIVDM,1,1,,A,13HOI:0P0000VK0LDGPQLOvL0000,0*6A\r\n";
    private static final String VOYAGE = "!AIVDM,2,1,3,A,55?MbV02;H;s<HtKP00EHE:0@T4@Dl0000000016L961O5Gf0NSQEp6ClRh0,0*0C\r\n"
        + "!AIVDM,2,2,3,A,00000000000,2*27\r\n";
    /** Four bits that have no name are 0001 in what came, 0 in what is sent. */
    private static final String SENT_VOYAGE = VOYAGE.replace("O5Gf0", "O1Gf0").replace("*0C", "*08");
    private static final String COURSE = "$GPVTG,054.7,T,034.4,M,005.5,N,010.2,K,A*25\r\n";

    public static void main(String[] args) {
        newObject();
        feedOrder();
        feedRoom();
        endKeepsTheFirst();
        endRefused();
        streamTakes();
        streamEmpties();
        countOther();
        countUnderWay();
        countKept();
        fixOther();
        findNone();
        vesselOther();
        letterNone();
        bitsEdges();
        bitsOfTheLatest();
        sendRefused();
        sendIdOfFiveAlone();
        sentAsSentences();
        sentValues();
        sentTexts();
        sentParts();
        outEdges();
        againRoom();
        againOrder();
        clearKeeps();
        clearForgets();
        Bench.finish();
    }

    private static void dueNothing(SeaReceiver r, int tape, int out) {
        for (int what = 0; what <= 13; what++) {
            Bench.due("count " + what, what == 10 ? tape : what == 11 ? out : 0, r.count(what));
        }
        for (int what = 0; what <= 17; what++) {
            int w = what;
            Bench.due("fix " + what, Bench.NONE, () -> r.fix(w));
        }
        for (int mmsi : new int[] {0, 1, 227006760, 351759000, Bench.NONE, -1}) {
            Bench.due("find " + mmsi, Bench.NONE, r.find(mmsi));
        }
        for (int what : new int[] {0, 1, 2, 23, 30, 31, 32, 24}) {
            Bench.due("vessel " + what, Bench.NO_SUCH, () -> r.vessel(0, what));
        }
        for (int what = 0; what < 3; what++) {
            Bench.due("letter", Bench.NONE, r.letter(0, what, 0));
        }
        Bench.due("bits", Bench.NO_SUCH, () -> r.bits(0, 1));
        for (int type : new int[] {1, 5, 18}) {
            Bench.due("send " + type, Bench.NO_SUCH, () -> r.send(0, type, 0));
        }
    }

    private static void newObject() {
        Bench.says("1: Nothing received");
        SeaReceiver r = new SeaReceiver();
        dueNothing(r, 0, 0);
        Bench.due("out", Bench.NONE, r.out(0));
        Bench.due("again", 0, r.again());
        Bench.due("stream", 0, r.stream());
        Bench.due("end", 1, r.end(0) ? 1 : 0);
        Bench.due("end", 0, r.end(1) ? 1 : 0);
        SeaReceiver other = Bench.heard(SHIP);
        dueNothing(r, 0, 0);
        Bench.due("an object of its own", 1, other.count(9));
    }

    private static void feedOrder() {
        Bench.says("2: Twenty signs come behind THE TAPE, of each number the highest byte first: how many it has");
        SeaReceiver r = new SeaReceiver();
        // $GPVTG,5,T,,,,,,*33 and 13, then 10: over two calls of feed.
        Bench.due("twenty", 20, r.feed(0x24475056, 0x54472C35, 0x2C542C2C, 0x2C2C2C2C, 0x2A33330D));
        Bench.due("forty", 40, r.feed(0x0A244750, 0x5654472C, 0x362C542C, 0x2C2C2C2C, 0x2C2A3330));
        Bench.due("sixty", 60, r.feed(0x0D0A0000, 0, -1, LOWEST, HIGHEST));
        Bench.due("the first and the second", 2, r.stream());
        Bench.due("the second is the latest", 600, () -> r.fix(12));
        Bench.due("the others are passed over", "2 0 0 0 0, 0", Bench.tallies(r));
        for (int shift = 0; shift < 32; shift += 8) {
            SeaReceiver one = new SeaReceiver();
            for (int place = 0; place < 5; place++) {
                int[] w = new int[5];
                w[place] = '$' << shift;
                one.feed(w[0], w[1], w[2], w[3], w[4]);
                one.end(20 - 4 * (4 - place) - shift / 8);
                one.stream();
                Bench.due("$ in number " + place + ", byte " + shift, 1, one.count(12));
                Bench.due("broken by noughts", place, one.count(1));
                Bench.hear(one, "\0");
            }
        }
        SeaReceiver high = new SeaReceiver();
        high.feed(0xA4A4A4A4, 0xA1A1A1A1, 0x80808080, 0xFFFFFFFF, 0x92909290);
        high.stream();
        Bench.due("bytes above 127 are no $ and no !", "0 0 0 0 0, 0", Bench.tallies(high));
    }

    private static void feedRoom() {
        Bench.says("2: NONE, and none come, if there would be more than 2000");
        SeaReceiver r = new SeaReceiver();
        for (int n = 20; n <= 2000; n += 20) {
            Bench.due("feed", n, r.feed(0, 0, 0, 0, 0));
        }
        Bench.due("the 101st", Bench.NONE, r.feed(0x24242424, 0x24242424, 0x24242424, 0x24242424, 0x24242424));
        Bench.due("none came", 2000, r.count(10));
        for (int n : new int[] {1999, 1990, 1981}) {
            r.end(n);
            Bench.due("behind " + n, Bench.NONE, r.feed(0x24242424, 0x24242424, 0x24242424, 0x24242424, 0x24242424));
            Bench.due("none came behind " + n, n, r.count(10));
        }
        r.end(1980);
        Bench.due("behind 1980", 2000, r.feed(0, 0, 0, 0, 0));
        r.end(1979);
        Bench.due("behind 1979", 1999, r.feed(0, 0, 0, 0, 0));
        r.stream();
        Bench.due("none of the refused ones was heard", "0 0 0 0 0, 0", Bench.tallies(r));
        Bench.due("there is room again", 20, r.feed(0, 0, 0, 0, 0));
    }

    private static void endKeepsTheFirst() {
        Bench.says("3: THE TAPE has its first n signs alone: true");
        for (int n = 0; n <= COURSE.length(); n++) {
            SeaReceiver r = new SeaReceiver();
            Bench.put(r, COURSE);
            Bench.due("end " + n, 1, r.end(n) ? 1 : 0);
            Bench.due("it has " + n, n, r.count(10));
            Bench.due("no longer than that", 0, r.end(n + 1) ? 1 : 0);
            Bench.due("stream", n == COURSE.length() ? 1 : 0, r.stream());
            Bench.due("under way", n == COURSE.length() ? 0 : Math.min(n, COURSE.indexOf('*')), r.count(12));
        }
    }

    private static void endRefused() {
        Bench.says("3: false if it has not so many, or n is below 0");
        SeaReceiver r = new SeaReceiver();
        for (int n : new int[] {1, 20, 2000, HIGHEST, -1, LOWEST}) {
            Bench.due("of an empty tape " + n, 0, r.end(n) ? 1 : 0);
        }
        Bench.put(r, COURSE);
        for (int n : new int[] {46, 60, 2000, 2001, HIGHEST, -1, -45, LOWEST}) {
            Bench.due("end " + n, 0, r.end(n) ? 1 : 0);
            Bench.due("it has as many as before", 45, r.count(10));
        }
        Bench.due("and the same ones", 1, r.stream());
    }

    private static void streamTakes() {
        Bench.says("4: how many sentences were TAKEN");
        SeaReceiver r = new SeaReceiver();
        Bench.due("none", 0, r.stream());
        String other = "$A*41\r\n$A*40\r\n$*" + Bench.whole("$GPGGA");
        Bench.due("not others", 0, Bench.hear(r, other));
        Bench.due("not others", "0 1 1 1 1, 0", Bench.tallies(r));
        Bench.due("three among others", 3, Bench.hear(r, COURSE + other + SHIP + other + COURSE));
        Bench.due("of this call alone", 2, Bench.hear(r, VOYAGE));
        Bench.due("in all", 5, r.count(0));
        Bench.due("a part that is passed over is taken", 1, Bench.hear(r, Bench.part(2, 2, "", "1")));
        Bench.due("one that is odd is taken", 1, Bench.hear(r, Bench.one("1")));
        // 19 signs each: as many as the tape has room for.
        SeaReceiver s = new SeaReceiver();
        Bench.due("a full tape", 105, Bench.hear(s, Bench.whole("$GPVTG,,,,,,,,").repeat(105)));
    }

    private static void streamEmpties() {
        Bench.says("4: THE TAPE, which is empty then");
        SeaReceiver r = new SeaReceiver();
        Bench.put(r, COURSE);
        r.stream();
        Bench.due("empty", 0, r.count(10));
        Bench.due("nothing is heard twice", 0, r.stream());
        Bench.due("nothing is heard twice", 1, r.count(0));
        Bench.due("it has none", 0, r.end(1) ? 1 : 0);
        Bench.due("from its beginning again", 20, r.feed(0, 0, 0, 0, 0));
    }

    private static void countOther() {
        Bench.says("5: NONE for another what");
        SeaReceiver r = Bench.heard(SHIP + COURSE);
        for (int what : new int[] {-1, -2, 14, 15, 30, 255, LOWEST, HIGHEST, LOWEST + 1}) {
            Bench.due("count " + what, Bench.NONE, r.count(what));
        }
        int[] want = {2, 0, 0, 0, 0, 1, 0, 0, 0, 1, 0, 0, 0, 0};
        for (int what = 0; what < want.length; what++) {
            Bench.due("count " + what, want[what], r.count(what));
        }
    }

    private static void countUnderWay() {
        Bench.says("5: 12: signs of the sentence that is under way, ahead of its * (with the first one; 0 without)");
        SeaReceiver r = new SeaReceiver();
        Bench.due("without", 0, r.count(12));
        String s = "$ABC*40\r";
        int[] want = {1, 2, 3, 4, 4, 4, 4, 4};
        for (int i = 0; i < want.length; i++) {
            Bench.hear(r, s.substring(i, i + 1));
            Bench.due("behind " + s.substring(0, i + 1), want[i], r.count(12));
        }
        Bench.hear(r, "\n");
        Bench.due("ended", 0, r.count(12));
        Bench.hear(r, "!AB");
        Bench.due("another", 3, r.count(12));
        Bench.hear(r, "\n");
        Bench.due("broken", 0, r.count(12));
        Bench.hear(r, "$" + "A".repeat(78));
        Bench.due("the longest", 79, r.count(12));
        Bench.put(r, "AAAA");
        Bench.due("what is on the tape is not under way", 79, r.count(12));
    }

    private static void countKept() {
        Bench.says("5: 13: PARTS that are kept in all");
        SeaReceiver r = new SeaReceiver();
        int kept = 0;
        for (int part = 1; part <= 8; part++) {
            for (int id = 0; id <= 3; id++) {
                Bench.hear(r, Bench.part(9, part, "" + id, "1"));
                kept++;
                Bench.due("kept", kept, r.count(13));
            }
        }
        Bench.hear(r, Bench.part(9, 9, "2", "1"));
        Bench.due("one is whole", 24, r.count(13));
        Bench.hear(r, Bench.part(9, 9, "2", "1"));
        Bench.due("one is lost that was not kept", 24, r.count(13));
        Bench.hear(r, Bench.part(9, 1, "3", "1"));
        Bench.due("eight are gone for one", 17, r.count(13));
    }

    private static void fixOther() {
        Bench.says("6: NONE also for what was never told. NoSuchElementException: another what");
        SeaReceiver r = Bench.heard(COURSE);
        for (int what : new int[] {-1, -2, 18, 19, 23, 30, 255, LOWEST, HIGHEST}) {
            Bench.due("fix " + what, Bench.NO_SUCH, () -> r.fix(what));
        }
        long n = Bench.NONE;
        long[] want = {n, n, n, n, n, n, n, n, n, n, n, 550, 5470, n, n, 3440, 1020, 'A'};
        for (int what = 0; what < want.length; what++) {
            int w = what;
            Bench.due("fix " + what, want[what], () -> r.fix(w));
        }
    }

    private static void findNone() {
        Bench.says("7: NONE if there is none such");
        SeaReceiver r = Bench.heard(SHIP + VOYAGE);
        Bench.due("the first", 0, r.find(227006760));
        Bench.due("the second", 1, r.find(351759000));
        for (int mmsi : new int[] {227006759, 227006761, 227006760 | 1 << 30, 227006760 | 1 << 31, -227006760, 0, 1, -1, Bench.NONE,
            HIGHEST}) {
            Bench.due("find " + mmsi, Bench.NONE, r.find(mmsi));
        }
        Bench.hear(r, Bench.one(Bench.head(6, 5) + VesselTest.ONE) + Bench.part(2, 1, "", Bench.head(1, 6)));
        Bench.due("an odd message makes no vessel", Bench.NONE, r.find(5));
        Bench.due("nor does a part", Bench.NONE, r.find(6));
    }

    private static void vesselOther() {
        Bench.says("8: NoSuchElementException: no such VESSEL, or another what");
        SeaReceiver r = Bench.heard(SHIP + VOYAGE);
        for (int v : new int[] {-1, 2, 39, 40, 41, LOWEST, HIGHEST}) {
            for (int what : new int[] {0, 23, 30, 32, 24, -1}) {
                Bench.due("vessel " + v + " " + what, Bench.NO_SUCH, () -> r.vessel(v, what));
            }
        }
        for (int what : new int[] {-1, -2, 24, 25, 26, 27, 28, 29, 33, 34, 60, LOWEST, HIGHEST}) {
            Bench.due("vessel 0 " + what, Bench.NO_SUCH, () -> r.vessel(0, what));
            Bench.due("vessel 1 " + what, Bench.NO_SUCH, () -> r.vessel(1, what));
        }
        Bench.says("8: NONE of what was not told");
        for (int what = 11; what <= 22; what++) {
            int w = what;
            Bench.due("vessel 0 " + what, Bench.NONE, () -> r.vessel(0, w));
        }
        for (int what = 2; what <= 11; what++) {
            int w = what;
            Bench.due("vessel 1 " + what, Bench.NONE, () -> r.vessel(1, w));
        }
        for (int what = 30; what <= 32; what++) {
            int w = what;
            Bench.due("vessel 0 has no text " + what, 0, () -> r.vessel(0, w));
            Bench.due("vessel 1 has text " + what, new int[] {5, 11, 8}[what - 30], () -> r.vessel(1, w));
        }
    }

    private static void letterNone() {
        Bench.says("9: NONE if there is none such");
        SeaReceiver r = Bench.heard(SHIP + VOYAGE);
        String[] texts = {"3FOF8", "EVER DIADEM", "NEW YORK"};
        for (int what = 0; what < 3; what++) {
            Bench.due("text " + what, texts[what], Bench.text(r, 1, what));
            for (int i : new int[] {-1, texts[what].length(), texts[what].length() + 1, 19, 20, 21, LOWEST, HIGHEST}) {
                Bench.due("letter " + what + " " + i, Bench.NONE, r.letter(1, what, i));
            }
            Bench.due("of a text that was not told", Bench.NONE, r.letter(0, what, 0));
            for (int v : new int[] {-1, 2, 40, LOWEST, HIGHEST}) {
                Bench.due("letter of vessel " + v, Bench.NONE, r.letter(v, what, 0));
            }
        }
        for (int what : new int[] {-1, 3, 30, 31, 32, LOWEST, HIGHEST}) {
            Bench.due("letter of text " + what, Bench.NONE, r.letter(1, what, 0));
        }
    }

    private static void bitsEdges() {
        Bench.says("10: NoSuchElementException: it has not so many, or there was none, or n is another one (1 .. 32)");
        SeaReceiver none = new SeaReceiver();
        Bench.due("there was none", Bench.NO_SUCH, () -> none.bits(0, 1));
        for (int length : new int[] {1, 6, 31, 32, 33, 63, 64, 65, 168, 360}) {
            SeaReceiver r = Bench.heard(Bench.one("1".repeat(length)));
            for (int n = -1; n <= 34; n++) {
                int width = n;
                long ones = n == 32 ? -1 : (1L << n) - 1;
                boolean fits = n >= 1 && n <= 32 && n <= length;
                Bench.due(n + " of " + length, fits ? ones : Bench.NO_SUCH, () -> r.bits(0, width));
                Bench.due("the last " + n + " of " + length, fits ? ones : Bench.NO_SUCH, () -> r.bits(length - width, width));
                Bench.due("one behind " + n + " of " + length, Bench.NO_SUCH, () -> r.bits(length - width + 1, width));
                Bench.due(n + " ahead of the first", Bench.NO_SUCH, () -> r.bits(-1, width));
            }
            for (int at : new int[] {LOWEST, LOWEST + 32, -33, -32, length, length + 1, HIGHEST - 32, HIGHEST - 31, HIGHEST}) {
                Bench.due("from " + at, Bench.NO_SUCH, () -> r.bits(at, 1));
                Bench.due("from " + at, Bench.NO_SUCH, () -> r.bits(at, 32));
            }
            for (int n : new int[] {LOWEST, HIGHEST, 64, 65, -32}) {
                Bench.due(n + " bits", Bench.NO_SUCH, () -> r.bits(0, n));
            }
        }
        Bench.says("10: from bit at on, n of them, the highest first, as an int");
        String bits = "10110011100011110000111110000011111100000011111110000000111111110000000011111111100000000010101010";
        for (int n = 1; n <= 32; n++) {
            SeaReceiver r = Bench.heard(Bench.one(bits));
            for (int at = 0; at + n <= bits.length(); at++) {
                int from = at;
                int width = n;
                int want = (int) Long.parseLong(bits.substring(at, at + n), 2);
                Bench.due(n + " from " + at, want, () -> r.bits(from, width));
            }
        }
    }

    private static void bitsOfTheLatest() {
        Bench.says("10: Bits of the latest MESSAGE (ODD ones, too)");
        SeaReceiver r = Bench.heard(SHIP);
        Bench.due("not odd", 1, () -> r.bits(0, 6));
        Bench.hear(r, Bench.one("101"));
        Bench.due("odd", 5, () -> r.bits(0, 3));
        Bench.due("nothing of the one before", Bench.NO_SUCH, () -> r.bits(0, 4));
        Bench.hear(r, Bench.part(2, 1, "1", "0000000"));
        Bench.due("a part is none", 5, () -> r.bits(0, 3));
        Bench.hear(r, Bench.part(3, 3, "1", "0000000"));
        Bench.due("a lost one is none", Bench.NO_SUCH, () -> r.bits(0, 4));
        Bench.hear(r, Bench.whole("!AIVDM,1,1,,A,0,6") + "!AIVDM,1,1,,A,0,0*00\r\n");
        Bench.due("a faulty one and a wrong one are none", 5, () -> r.bits(0, 3));
        Bench.hear(r, VOYAGE);
        Bench.due("of two parts", 5, () -> r.bits(0, 6));
        Bench.due("of two parts", 0, () -> r.bits(392, 32));
        Bench.due("of two parts", Bench.NO_SUCH, () -> r.bits(393, 32));
        r.send(0, 1, 0);
        Bench.due("what is sent is none", 5, () -> r.bits(0, 6));
        r.again();
        Bench.due("what is on the tape is none", 5, () -> r.bits(0, 6));
        r.stream();
        Bench.due("but when it is heard", 1, () -> r.bits(0, 6));
    }

    private static void sendRefused() {
        Bench.says("11: NoSuchElementException: no such VESSEL; IllegalArgumentException: another TYPE, or (of 5) ID");
        SeaReceiver r = Bench.heard(SHIP + VOYAGE);
        Bench.due("send", 49, () -> r.send(0, 18, 0));
        String before = Bench.outText(r);
        for (int v : new int[] {-1, 2, 39, 40, LOWEST, HIGHEST}) {
            for (int type : new int[] {1, 5, 18}) {
                Bench.due("vessel " + v, Bench.NO_SUCH, () -> r.send(v, type, 0));
            }
        }
        for (int type : new int[] {-1, 0, 2, 3, 4, 6, 7, 17, 19, 24, 64, 65, 69, LOWEST, HIGHEST}) {
            Bench.due("type " + type, Bench.ILLEGAL, () -> r.send(0, type, 0));
        }
        for (int id : new int[] {-1, 10, 11, 48, LOWEST, HIGHEST}) {
            Bench.due("id " + id, Bench.ILLEGAL, () -> r.send(1, 5, id));
        }
        Bench.due("a refused one leaves the out", before, Bench.outText(r));
        Bench.says("11: NoSuchElementException: no such VESSEL (named ahead of the other)");
        Bench.due("vessel and type", Bench.NO_SUCH, () -> r.send(2, 4, 0));
        Bench.due("vessel and id", Bench.NO_SUCH, () -> r.send(2, 5, 10));
    }

    private static void sendIdOfFiveAlone() {
        Bench.says("11: with an ID 0 .. 9 (of 5)");
        SeaReceiver r = Bench.heard(SHIP + VOYAGE);
        for (int id = 0; id <= 9; id++) {
            int i = id;
            Bench.due("id " + id, 115, () -> r.send(1, 5, i));
            Bench.due("in the first", '0' + id, r.out(11));
            Bench.due("in the second", '0' + id, r.out(82 + 11));
        }
        for (int id : new int[] {-1, 0, 9, 10, LOWEST, HIGHEST}) {
            Bench.due("1 takes any", 49, () -> r.send(0, 1, id));
            Bench.due("and writes none", SHIP, Bench.outText(r));
            Bench.due("18 takes any", 49, () -> r.send(0, 18, id));
        }
    }

    private static void sentAsSentences() {
        Bench.says("SENDING: .. written to THE OUT as sentences !AIVDM, each with 13, 10");
        SeaReceiver r = Bench.heard(SHIP + VOYAGE);
        r.send(0, 1, 7);
        Bench.due("the very sentence", SHIP, Bench.outText(r));
        r.send(1, 5, 3);
        Bench.due("the sentences, their nameless bits 0", SENT_VOYAGE, Bench.outText(r));
        r.send(0, 18, 7);
        Bench.due("a shorter one", "!AIVDM,1,1,,A,B3HOI:000009Vh755p8G7wW00000,0*0B\r\n", Bench.outText(r));
        // Sums of all kinds: a nought ahead, letters behind.
        java.util.TreeSet<String> sums = new java.util.TreeSet<>();
        for (int mmsi = 0; mmsi < 64; mmsi++) {
            SeaReceiver one = Bench.heard(Bench.one(Bench.head(18, mmsi * 0x10401) + VesselTest.EIGHTEEN));
            one.send(0, 18, 0);
            String out = Bench.outText(one);
            Bench.due("sum", Bench.whole(out.substring(0, out.indexOf('*'))), out);
            sums.add(out.substring(45, 47));
        }
        Bench.due("many sums", 1, sums.size() >= 20 ? 1 : 0);
    }

    private static String onlyNamed(int type, int mmsi, int[][] told, char bit) {
        StringBuilder b = new StringBuilder(Bench.head(type, mmsi));
        for (int[] field : MessageEdgesTest.layout(type)) {
            boolean known = false;
            for (int[] other : told) {
                known |= field[0] >= 0 && other[0] == field[0];
            }
            b.append(("" + (known ? bit : '0')).repeat(field[1]));
        }
        return b.toString();
    }

    private static void sentValues() {
        Bench.says("The MESSAGE has the values that the VESSEL has, those that were not told as 0, all bits that have no name 0");
        for (int from : new int[] {1, 2, 3, 4, 5, 18}) {
            int[][] told = MessageEdgesTest.layout(from);
            int bits = from == 5 ? 386 : 130;
            SeaReceiver ones = Bench.heard(MessageEdgesTest.message(Bench.bin(from, 6) + "1".repeat(32 + bits)));
            SeaReceiver noughts = Bench.heard(MessageEdgesTest.message(Bench.bin(from, 6) + "0".repeat(32 + bits)));
            for (int to : new int[] {1, 5, 18}) {
                ones.send(0, to, 1);
                String due = onlyNamed(to, 0x3FFFFFFF, told, '1');
                Bench.due(to + " of " + from + ", ones", MessageEdgesTest.message(due), Bench.outText(ones));
                noughts.send(0, to, 1);
                due = onlyNamed(to, 0, told, '0');
                Bench.due(to + " of " + from + ", noughts", MessageEdgesTest.message(due), Bench.outText(noughts));
            }
        }
        // The lowest and the highest of those with a sign.
        SeaReceiver r = new SeaReceiver();
        String low = "0000" + Bench.bin(-128, 8) + Bench.bin(0, 11) + Bench.bin(-134217728, 28) + Bench.bin(-67108864, 27) + Bench.bin(0, 52);
        String high = "0000" + Bench.bin(127, 8) + Bench.bin(0, 11) + Bench.bin(134217727, 28) + Bench.bin(67108863, 27) + Bench.bin(0, 52);
        for (String s : new String[] {low, high}) {
            Bench.hear(r, Bench.one(Bench.head(1, 3) + s));
            r.send(0, 1, 0);
            Bench.due("with a sign", Bench.one(Bench.head(1, 3) + s), Bench.outText(r));
        }
    }

    private static void sentTexts() {
        Bench.says("those that were not told (a text as noughts); texts longer than what was told are filled up with v of 0");
        String[] names = {"", "A", "A B", " A", "_ !?", "ABCDEFGHIJKLMNOPQRS", "ABCDEFGHIJKLMNOPQRST"};
        for (String name : names) {
            String call = name.length() > 7 ? "GFEDCBA" : name;
            String plain = "0".repeat(32) + Bench.sixes(call, 7) + Bench.sixes(name, 20) + "0".repeat(70) + Bench.sixes(name, 20) + "00";
            // As it came: blanks up to the end, or signs behind a nought.
            String blanks = "0".repeat(32) + Bench.sixes((call + "       ").substring(0, 7), 7)
                + Bench.sixes((name + " ".repeat(20)).substring(0, 20), 20) + "0".repeat(70)
                + Bench.sixes((name + "@" + "X".repeat(20)).substring(0, 20), 20) + "00";
            SeaReceiver r = Bench.heard(VesselTest.two("", Bench.head(5, 8) + blanks));
            r.send(0, 5, 0);
            Bench.due("text " + name, VesselTest.two("0", Bench.head(5, 8) + plain), Bench.outText(r));
        }
        SeaReceiver r = Bench.heard(SHIP);
        r.send(0, 5, 2);
        Bench.due("no text was told", VesselTest.two("2", Bench.head(5, 227006760) + "0".repeat(386)), Bench.outText(r));
    }

    private static void sentParts() {
        Bench.says("TYPE 5 takes two: MANY 2, PART 1 with 60 signs, PART 2 with what is left; ID as told; "
            + "else MANY 1, PART 1, ID empty. CHANNEL A. FILL is what fills the last sign up");
        SeaReceiver r = Bench.heard(SHIP + VOYAGE);
        r.send(1, 5, 9);
        String[] sentences = Bench.outText(r).split("\r\n");
        Bench.due("two", 2, sentences.length);
        Bench.due("the first", "!AIVDM,2,1,9,A,", sentences[0].substring(0, 15));
        Bench.due("sixty signs, none to fill", ",0*", sentences[0].substring(75, 78));
        Bench.due("the second", "!AIVDM,2,2,9,A,", sentences[1].substring(0, 15));
        Bench.due("eleven signs, two bits to fill", ",2*", sentences[1].substring(26, 29));
        for (int type : new int[] {1, 18}) {
            r.send(0, type, 9);
            sentences = Bench.outText(r).split("\r\n");
            Bench.due("one", 1, sentences.length);
            Bench.due("the only one", "!AIVDM,1,1,,A,", sentences[0].substring(0, 14));
            Bench.due("28 signs, none to fill", ",0*", sentences[0].substring(42, 45));
        }
        SeaReceiver all = Bench.heard(VesselTest.two("", Bench.bin(5, 6) + "1".repeat(418)));
        all.send(0, 5, 0);
        // The last sign has two bits of GOAL; the two bits without a name and the two that fill it up are 0: 110000.
        Bench.due("the last sign but one", 'w', all.out(82 + 24));
        Bench.due("the last sign", 48 + 48 + 8, all.out(82 + 25));
    }

    private static void outEdges() {
        Bench.says("12: Sign i of THE OUT; NONE if there is none");
        SeaReceiver r = Bench.heard(SHIP + VOYAGE);
        for (int i : new int[] {0, 1, -1, LOWEST, HIGHEST}) {
            Bench.due("nothing was sent, " + i, Bench.NONE, r.out(i));
        }
        r.send(1, 5, 3);
        for (int i = 0; i < 115; i++) {
            Bench.due("out " + i, SENT_VOYAGE.charAt(i), r.out(i));
        }
        for (int i : new int[] {-1, 115, 116, 2000, LOWEST, HIGHEST}) {
            Bench.due("out " + i, Bench.NONE, r.out(i));
        }
        r.send(0, 1, 3);
        for (int i = 0; i < 115; i++) {
            Bench.due("the shorter one, out " + i, i < 49 ? SHIP.charAt(i) : Bench.NONE, r.out(i));
        }
        Bench.due("how many", 49, r.count(11));
    }

    private static void againRoom() {
        Bench.says("13: THE OUT comes behind THE TAPE: how many signs that has; NONE, and nothing comes, if there would be more than 2000");
        SeaReceiver r = Bench.heard(SHIP);
        Bench.due("nothing was sent", 0, r.again());
        for (int n = 20; n <= 2000; n += 20) {
            r.feed(0, 0, 0, 0, 0);
        }
        Bench.due("nothing was sent, the tape is full", 2000, r.again());
        r.send(0, 1, 0);
        for (int n : new int[] {2000, 1999, 1952}) {
            r.end(n);
            Bench.due("behind " + n, Bench.NONE, r.again());
            Bench.due("nothing came behind " + n, n, r.count(10));
        }
        r.end(1951);
        Bench.due("behind 1951", 2000, r.again());
        Bench.due("once more", Bench.NONE, r.again());
        Bench.due("it is heard", 1, r.stream());
        Bench.due("once", 2, () -> r.vessel(0, 23));
        SeaReceiver s = Bench.heard(VOYAGE);
        s.send(0, 5, 0);
        for (int n = 20; n <= 2000; n += 20) {
            s.feed(0, 0, 0, 0, 0);
        }
        s.end(1886);
        Bench.due("115 behind 1886", Bench.NONE, s.again());
        s.end(1885);
        Bench.due("115 behind 1885", 2000, s.again());
        Bench.due("the out stays", 115, s.count(11));
        Bench.due("both parts", 2, s.stream());
    }

    private static void againOrder() {
        Bench.says("13: THE OUT comes behind THE TAPE");
        SeaReceiver r = Bench.heard(SHIP);
        r.send(0, 18, 0);
        Bench.put(r, "$GPVTG,7");
        Bench.due("behind eight", 57, r.again());
        Bench.due("twice", 106, r.again());
        Bench.due("it breaks what is ahead", 2, r.stream());
        Bench.due("it breaks what is ahead", "3 1 0 0 0, 0", Bench.tallies(r));
        Bench.due("three were its", 3, () -> r.vessel(0, 23));
    }

    private static SeaReceiver busy() {
        SeaReceiver r = Bench.heard(COURSE + Bench.whole("$GPGGA,000001,0002,N,00003,E,4,5,6,7,M,8,M,9,0010")
            + Bench.whole("$GPRMC,000001,A,0002,N,00003,E,4,5,060708,9,E,D") + "$A*41\r\n$A*40\r\n$*" + Bench.whole("$GPGGA"));
        Bench.hear(r, SHIP + VOYAGE + Bench.one("1") + Bench.part(2, 2, "5", "1"));
        for (int v = 0; v < 39; v++) {
            Bench.hear(r, Bench.one(Bench.head(18, v) + VesselTest.EIGHTEEN));
        }
        for (int id = 0; id < 10; id++) {
            Bench.hear(r, Bench.part(3, 1, "" + id, "1"));
        }
        Bench.hear(r, Bench.part(3, 1, "", "1") + "!AIVDM");
        return r;
    }

    private static void clearKeeps() {
        Bench.says("14: All is as behind the constructor, but THE TAPE and THE OUT");
        SeaReceiver r = busy();
        for (int what = 0; what <= 13; what++) {
            Bench.due("there is something to clear, count " + what, 1, r.count(what) > 0 || what == 10 || what == 11 ? 1 : 0);
        }
        r.send(1, 5, 3);
        Bench.put(r, COURSE);
        r.clear();
        dueNothing(r, 45, 115);
        Bench.due("the out", SENT_VOYAGE, Bench.outText(r));
        Bench.due("the tape", 1, r.stream());
        Bench.due("nothing was under way", "1 0 0 0 0, 0", Bench.tallies(r));
        Bench.due("fix", 5470, () -> r.fix(12));
    }

    private static void clearForgets() {
        Bench.says("14: All is as behind the constructor");
        SeaReceiver r = busy();
        r.clear();
        for (int id = 0; id < 10; id++) {
            Bench.hear(r, Bench.part(3, 2, "" + id, "1"));
        }
        Bench.hear(r, Bench.part(3, 2, "", "1"));
        Bench.due("no part was kept", "0 11 0", r.count(6) + " " + r.count(7) + " " + r.count(13));
        Bench.hear(r, VOYAGE);
        Bench.due("the first vessel", 351759000, () -> r.vessel(0, 0));
        Bench.due("it has nothing of the one before", Bench.NONE, () -> r.vessel(0, 6));
        Bench.due("and one message", 1, () -> r.vessel(0, 23));
        r.clear();
        Bench.hear(r, SHIP);
        Bench.due("nor its text", 0, () -> r.vessel(0, 31));
        Bench.due("nor its letters", Bench.NONE, r.letter(0, 1, 0));
        r.send(0, 5, 1);
        Bench.due("nor are they sent", VesselTest.two("1", Bench.head(5, 227006760) + "0".repeat(386)), Bench.outText(r));
        SeaReceiver s = busy();
        s.clear();
        s.clear();
        dueNothing(s, 0, 0);
        Bench.hear(s, "*41\r\n");
        Bench.due("nothing goes on", "0 0 0 0 0, 0", Bench.tallies(s));
    }
}
