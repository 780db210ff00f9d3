/** Promises 1 to 5: a new object, feed, end, stream, count (of sentences). */
public final class StreamTest {
    public static void main(String[] args) {
        newObject();
        feedAndEnd();
        brokenSentences();
        overSeveralCalls();
        sums();
        addresses();
        fieldCounts();
        Bench.finish();
    }

    private static void newObject() {
        SeaReceiver r = new SeaReceiver();
        for (int what = 0; what <= 13; what++) {
            Bench.due("1: count " + what, 0, r.count(what));
        }
        for (int what = 0; what <= 17; what++) {
            int w = what;
            Bench.due("1: fix " + what, Bench.NONE, () -> r.fix(w));
        }
        Bench.due("1: find", Bench.NONE, r.find(0));
        Bench.due("1: vessel", Bench.NO_SUCH, () -> r.vessel(0, 0));
        Bench.due("1: letter", Bench.NONE, r.letter(0, 0, 0));
        Bench.due("1: bits", Bench.NO_SUCH, () -> r.bits(0, 1));
        Bench.due("1: send", Bench.NO_SUCH, () -> r.send(0, 1, 0));
        Bench.due("1: out", Bench.NONE, r.out(0));
        Bench.due("1: again", 0, r.again());
        Bench.due("1: stream", 0, r.stream());
    }

    private static void feedAndEnd() {
        SeaReceiver r = new SeaReceiver();
        for (int i = 1; i <= 100; i++) {
            Bench.due("2: feed " + i, 20 * i, r.feed(i, -1, Integer.MIN_VALUE, Integer.MAX_VALUE, 0));
        }
        Bench.due("2: the 101st", Bench.NONE, r.feed(0, 0, 0, 0, 0));
        Bench.due("2: none came", 2000, r.count(10));
        Bench.due("3: more than there are", 0, r.end(2001) ? 1 : 0);
        Bench.due("3: below 0", 0, r.end(-1) ? 1 : 0);
        Bench.due("3: lowest", 0, r.end(Integer.MIN_VALUE) ? 1 : 0);
        Bench.due("3: highest", 0, r.end(Integer.MAX_VALUE) ? 1 : 0);
        Bench.due("3: as it was", 2000, r.count(10));
        Bench.due("3: all", 1, r.end(2000) ? 1 : 0);
        Bench.due("3: fewer", 1, r.end(1981) ? 1 : 0);
        Bench.due("2: one too many", Bench.NONE, r.feed(0, 0, 0, 0, 0));
        Bench.due("3: one fewer", 1, r.end(1980) ? 1 : 0);
        Bench.due("2: just fits", 2000, r.feed(0, 0, 0, 0, 0));
        Bench.due("3: none", 1, r.end(0) ? 1 : 0);
        Bench.due("3: is empty", 0, r.count(10));
        Bench.due("4: of nothing", 0, r.stream());
        Bench.due("2: highest byte first", 20, r.feed(0x24414243, 0x2A2A2A2A, 0x24242424, 0xFFA4A1FF, 0));
        r.stream();
        Bench.due("4: the tape is empty", 0, r.count(10));
        // "$ABC*" is broken by the second star, three of four $ by the next one, the last one by the 255.
        Bench.due("4: signs above 127 are no $ and no !", 5, r.count(1));
    }

    private static void brokenSentences() {
        String[] broken = {
            "$*00\r\n", "!*", "$A\r\n", "$A\t", "$A\u007f", "$\u00e4", "$A\n", "$A*4a", "$A*a1", "$A*G", "$A*4*", "$A**",
            "$A*41\n", "$A*41\r\r\n", "$A*41 ", "$A*411", "$A*41\rA", "$" + "A".repeat(79), "!" + "B".repeat(79) + "*00\r\n",
            "$A*4G\r\n", "$A*@1\r\n", "$A*4/\r\n", "$A*4:\r\n", "$A*f1\r\n", "$A*,", "$A*4/", "$A*4:", "$A*4@"
        };
        for (String b : broken) {
            SeaReceiver r = new SeaReceiver();
            Bench.due("4: " + b, 0, Bench.hear(r, "noise*00\r\n" + b + "A*41\r\n"));
            Bench.due("5: broken " + b, 1, r.count(1));
            Bench.due("5: under way " + b, 0, r.count(12));
            Bench.due("5: none ended " + b, 0, r.count(0) + r.count(2) + r.count(3) + r.count(4));
        }
        SeaReceiver r = new SeaReceiver();
        Bench.hear(r, "$$!$A!B*$C*4!D*41$E*41\r$");
        Bench.due("5: each begun one is broken", 8, r.count(1));
        Bench.due("5: the last $ is under way", 1, r.count(12));
        Bench.hear(r, "A".repeat(78));
        Bench.due("5: 78 signs and $", 79, r.count(12));
        Bench.hear(r, "*");
        Bench.due("5: ahead of *", 79, r.count(12));
        Bench.hear(r, "00\r\n");
        Bench.due("5: 78 signs end", 1, r.count(3));
        Bench.due("5: not broken", 8, r.count(1));
        Bench.due("5: none under way", 0, r.count(12));
        Bench.hear(r, "$ ~}#+\\^");
        Bench.due("5: 32 and 126 may stand", 8, r.count(12));
        Bench.due("5: count 14", Bench.NONE, r.count(14));
        Bench.due("5: count -1", Bench.NONE, r.count(-1));
        Bench.due("5: count of the lowest", Bench.NONE, r.count(Integer.MIN_VALUE));
        Bench.due("5: count of the highest", Bench.NONE, r.count(Integer.MAX_VALUE));
    }

    private static void overSeveralCalls() {
        String s = Bench.whole("$GPVTG,1,T,2,M,3,N,4,K,D");
        for (int cut = 1; cut < s.length(); cut++) {
            SeaReceiver r = new SeaReceiver();
            Bench.due("4: first half", 0, Bench.hear(r, s.substring(0, cut)));
            Bench.due("5: under way at " + cut, Math.min(cut, s.indexOf('*')), r.count(12));
            Bench.due("4: second half", 1, Bench.hear(r, s.substring(cut)));
            Bench.due("5: taken", 1, r.count(0));
        }
        SeaReceiver r = new SeaReceiver();
        Bench.due("4: three at once", 3, Bench.hear(r, s + "x" + s + "\r\n" + s));
        Bench.due("4: just those of this call", 1, Bench.hear(r, s));
        Bench.due("5: taken in all", 4, r.count(0));
    }

    private static void sums() {
        SeaReceiver r = new SeaReceiver();
        Bench.due("4: wrong sum", 0, Bench.hear(r, "$A*40\r\n$A*51\r\n$GPVTG,,,,,,,,*00\r\n"));
        Bench.due("5: wrong", 3, r.count(2));
        Bench.due("5: wrong ones are nothing else", 0, r.count(0) + r.count(1) + r.count(3) + r.count(4));
    }

    private static void addresses() {
        String[] strange = {
            "$GPGLL,1", "$GPGG", "$GPGGAX", "$GPGGA ", "$gpGGA", "$GPgga", "$,GPGGA", "$,", "$gPGGA", "$-PGGA", "$G-GGA", "$VDM", "!GPGGA", "$AIVDM",
            "$AIVDO", "!GPRMC", "!GPVTG", "!AIVDN", "!A[VDM", "!A@VDM", "!A/VDM", "!A:VDM", "$GGA", "$GGGGGA"
        };
        for (String s : strange) {
            SeaReceiver r = new SeaReceiver();
            Bench.due("4: " + s, 0, Bench.hear(r, Bench.whole(s)));
            Bench.due("5: strange " + s, 1, r.count(3));
            Bench.due("5: nothing else " + s, 0, r.count(0) + r.count(1) + r.count(2) + r.count(4));
        }
        for (String talker : new String[] {"GP", "09", "A9", "ZZ", "II"}) {
            SeaReceiver r = new SeaReceiver();
            Bench.due("4: from " + talker, 1, Bench.hear(r, Bench.whole("$" + talker + "VTG,,,,,,,,")));
            Bench.due("4: from " + talker, 1, Bench.hear(r, Bench.whole("!" + talker + "VDO,1,1,,,0,0")));
        }
    }

    private static void fieldCounts() {
        for (int commas = 0; commas <= 72; commas++) {
            SeaReceiver r = new SeaReceiver();
            String tail = ",".repeat(commas);
            boolean vtg = commas == 8 || commas == 9;
            Bench.due("4: VTG with commas " + commas, vtg ? 1 : 0, Bench.hear(r, Bench.whole("$GPVTG" + tail)));
            Bench.due("5: faulty", vtg ? 0 : 1, r.count(4));
            Bench.due("4: GGA with nothing", 0, Bench.hear(r, Bench.whole("$GPGGA" + tail)));
            Bench.due("4: RMC with nothing", 0, Bench.hear(r, Bench.whole("$GPRMC" + tail)));
            Bench.due("4: VDM with nothing", 0, Bench.hear(r, Bench.whole("!AIVDM" + tail)));
        }
        for (int more = 0; more <= 20; more++) {
            SeaReceiver r = new SeaReceiver();
            int rmc = Bench.hear(r, Bench.whole("$GPRMC,,V" + ",".repeat(more)));
            Bench.due("4: RMC with more commas " + more, more == 9 || more == 10 ? 1 : 0, rmc);
            int gga = Bench.hear(r, Bench.whole("$GPGGA,,,,,,0" + ",".repeat(more)));
            Bench.due("4: GGA with more commas " + more, more == 8 ? 1 : 0, gga);
            int vdm = Bench.hear(r, Bench.whole("!AIVDM,1,1,,,0,0" + ",".repeat(more)));
            Bench.due("4: VDM with more commas " + more, more == 0 ? 1 : 0, vdm);
        }
        SeaReceiver r = new SeaReceiver();
        Bench.hear(r, Bench.whole("$" + ",".repeat(78)));
        Bench.due("5: a sentence of commas alone", 1, r.count(3));
    }
}
