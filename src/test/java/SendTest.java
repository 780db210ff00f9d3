/** Promises 11 to 14: send, out, again, clear. */
public final class SendTest {
    public static void main(String[] args) {
        written();
        everySix();
        notTold();
        voyage();
        wrongCalls();
        tapeRoom();
        cleared();
        Bench.finish();
    }

    private static void written() {
        SeaReceiver r = new SeaReceiver();
        Bench.hear(r, Bench.one(Bench.head(3, 227006760) + VesselTest.ONE));
        String named = VesselTest.ONE.substring(0, 105) + Bench.bin(0, 25);
        Bench.due("11: type 1", 49, () -> r.send(0, 1, 0));
        Bench.due("12: type 1", Bench.one(Bench.head(1, 227006760) + named), Bench.outText(r));
        Bench.due("11: type 18", 49, () -> r.send(0, 18, 77));
        Bench.due("12: type 18", Bench.one(Bench.head(18, 227006760) + Bench.bin(0, 8) + named.substring(12, 105)
            + Bench.bin(0, 29)), Bench.outText(r));
        Bench.due("5: the out", 49, r.count(11));
        Bench.due("12: last", 10, r.out(48));
        Bench.due("12: last but one", 13, r.out(47));
        for (int i : new int[] {-1, 49, 50, 115, Integer.MIN_VALUE, Integer.MAX_VALUE}) {
            Bench.due("12: " + i, Bench.NONE, r.out(i));
        }
        Bench.due("11: sending is no message", 1, () -> r.vessel(0, 23));
        Bench.due("11: nor the latest one", 3, () -> r.bits(0, 6));
    }

    /** Each value of six bits, in the third sign, which is all of the MMSI; 39 and 40 are the edge of two rows of signs. */
    private static void everySix() {
        for (int six = 0; six < 64; six++) {
            SeaReceiver r = new SeaReceiver();
            Bench.hear(r, Bench.one(Bench.head(1, six << 20) + VesselTest.ONE));
            r.send(0, 1, 0);
            Bench.due("12: six bits " + six, six < 40 ? 48 + six : 96 + six - 40, r.out(16));
        }
    }

    private static void notTold() {
        SeaReceiver r = new SeaReceiver();
        Bench.hear(r, Bench.one(Bench.head(4, 12) + VesselTest.FOUR));
        String place = VesselTest.FOUR.substring(40, 96);
        r.send(0, 1, -5);
        Bench.due("12: type 1 of a base", Bench.one(Bench.head(1, 12) + Bench.bin(0, 22) + place + Bench.bin(0, 21)
            + Bench.bin(58, 6) + Bench.bin(0, 25)), Bench.outText(r));
        r.send(0, 5, 0);
        String bits = Bench.head(5, 12) + Bench.bin(0, 32 + 42 + 120 + 8 + 30 + 4)
            + Bench.bin(12, 4) + Bench.bin(31, 5) + Bench.bin(23, 5) + Bench.bin(59, 6) + Bench.bin(0, 8 + 120 + 2);
        Bench.due("12: type 5 of a base", VesselTest.two("0", bits), Bench.outText(r));
    }

    private static void voyage() {
        String came = VesselTest.two("", Bench.head(5, 351759000)
            + VesselTest.five("A  @B", "NAME WITH ? AND _   ", "12345678901234567890"));
        String bits = Bench.head(5, 351759000) + VesselTest.five("A", "NAME WITH ? AND _", "12345678901234567890");
        StringBuilder due = new StringBuilder(bits);
        for (int at : new int[] {38, 39, 270, 271, 272, 273, 422, 423}) {
            due.setCharAt(at, '0');
        }
        for (int id = 0; id <= 9; id++) {
            int i = id;
            SeaReceiver one = Bench.heard(came);
            Bench.due("11: type 5", 115, () -> one.send(0, 5, i));
            Bench.due("12: type 5", VesselTest.two("" + id, due.toString()), Bench.outText(one));
        }
        SeaReceiver r = Bench.heard(came);
        Bench.due("11: type 5", 115, () -> r.send(0, 5, 9));
        Bench.due("12: the last one", 10, r.out(114));
        Bench.due("12: behind it", Bench.NONE, r.out(115));
        Bench.due("13: again", 115, r.again());
        Bench.due("4: both parts", 2, r.stream());
        Bench.due("8: its own again", 2, () -> r.vessel(0, 23));
        Bench.due("9: the name", "NAME WITH ? AND _", Bench.text(r, 0, 1));
        Bench.due("5: the out stays", 115, r.count(11));
        r.send(0, 1, 0);
        Bench.due("12: a shorter one later", Bench.NONE, r.out(49));
    }

    private static void wrongCalls() {
        SeaReceiver r = new SeaReceiver();
        Bench.hear(r, Bench.one(Bench.head(1, 1) + VesselTest.ONE));
        r.send(0, 1, 0);
        String out = Bench.outText(r);
        for (int v : new int[] {-1, 1, 40, Integer.MIN_VALUE, Integer.MAX_VALUE}) {
            Bench.due("11: vessel " + v, Bench.NO_SUCH, () -> r.send(v, 1, 0));
            Bench.due("11: vessel " + v + " and wrong type", Bench.NO_SUCH, () -> r.send(v, 2, 0));
            Bench.due("11: vessel " + v + " and wrong id", Bench.NO_SUCH, () -> r.send(v, 5, 10));
        }
        for (int type : new int[] {-1, 0, 2, 3, 4, 6, 17, 19, 65, 69, Integer.MIN_VALUE, Integer.MAX_VALUE}) {
            Bench.due("11: type " + type, Bench.ILLEGAL, () -> r.send(0, type, 0));
        }
        for (int id : new int[] {-1, 10, Bench.NONE, Integer.MAX_VALUE}) {
            Bench.due("11: id " + id, Bench.ILLEGAL, () -> r.send(0, 5, id));
            Bench.due("12: the out stays", out, Bench.outText(r));
            Bench.due("11: no id of 1", 49, () -> r.send(0, 1, id));
            Bench.due("11: no id of 18", 49, () -> r.send(0, 18, id));
            r.send(0, 1, 0);
        }
    }

    private static void tapeRoom() {
        SeaReceiver r = new SeaReceiver();
        Bench.hear(r, Bench.one(Bench.head(1, 1) + VesselTest.ONE));
        r.send(0, 5, 3);
        for (int i = 1; i <= 17; i++) {
            Bench.due("13: again", 115 * i, r.again());
        }
        Bench.due("13: too many", Bench.NONE, r.again());
        Bench.due("13: nothing came", 1955, r.count(10));
        Bench.due("2: 20 more", 1975, r.feed(0, 0, 0, 0, 0));
        Bench.due("3: shorter", 1, r.end(1951) ? 1 : 0);
        r.send(0, 1, 0);
        Bench.due("13: just fits", 2000, r.again());
        Bench.due("13: no more", Bench.NONE, r.again());
        r.end(1952);
        Bench.due("13: one too many", Bench.NONE, r.again());
        r.end(1840);
        Bench.due("4: all of them", 32, r.stream());
        Bench.due("8: all were its", 17, () -> r.vessel(0, 23));
    }

    private static void cleared() {
        SeaReceiver r = new SeaReceiver();
        Bench.hear(r, Bench.whole("$GPGGA,000001,0001,N,00001,E,4,12,1,2,M,3,M,4,0005")
            + Bench.whole("$GPRMC,000001,A,0001,S,00001,W,5,6,020304,7,E,S") + Bench.whole("$GPVTG,1,T,2,M,3,N,4,K")
            + Bench.whole("$GPZDA") + Bench.whole("$GPGGA") + "$A*40\r\n$$" + VesselTest.two("1", Bench.head(5, 6)
            + VesselTest.five("A", "B", "C")) + Bench.one("1"));
        Bench.hear(r, Bench.one(Bench.head(1, 6) + VesselTest.ONE) + Bench.part(3, 3, "4", "1") + Bench.part(3, 1, "4", "1")
            + Bench.part(3, 2, "4", "1") + Bench.part(5, 1, "", "1") + "$GPG");
        r.send(0, 5, 3);
        Bench.put(r, "TAPE$");
        String out = Bench.outText(r);
        r.clear();
        for (int what = 0; what <= 13; what++) {
            Bench.due("14: count " + what, what == 10 ? 5 : what == 11 ? 115 : 0, r.count(what));
        }
        for (int what = 0; what <= 17; what++) {
            int w = what;
            Bench.due("14: fix " + what, Bench.NONE, () -> r.fix(w));
        }
        Bench.due("14: find", Bench.NONE, r.find(6));
        Bench.due("14: vessel", Bench.NO_SUCH, () -> r.vessel(0, 0));
        Bench.due("14: letter", Bench.NONE, r.letter(0, 0, 0));
        Bench.due("14: bits", Bench.NO_SUCH, () -> r.bits(0, 1));
        Bench.due("14: send", Bench.NO_SUCH, () -> r.send(0, 1, 0));
        Bench.due("14: the out stays", out, Bench.outText(r));
        r.stream();
        Bench.due("14: the tape stayed", 1, r.count(12));
        Bench.due("14: nothing was under way", 0, r.count(1));
        r.clear();
        Bench.hear(r, Bench.part(3, 3, "4", "1") + Bench.part(5, 2, "", "1"));
        Bench.due("14: no parts were kept", 2, r.count(7));
        Bench.hear(r, Bench.one(Bench.head(18, 6) + VesselTest.EIGHTEEN));
        Bench.due("14: a new vessel", 1, () -> r.vessel(0, 23));
        Bench.due("14: nothing of the old one", Bench.NONE, () -> r.vessel(0, 16));
        Bench.due("14: nor its name", 0, () -> r.vessel(0, 31));
        Bench.due("14: nor its letters", Bench.NONE, r.letter(0, 1, 0));
    }
}
