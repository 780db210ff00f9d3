/** Promise 6: fix, and which fields are as told (promises 4, 5). */
public final class FixTest {
    public static void main(String[] args) {
        gga();
        rmc();
        vtg();
        wrongWhat();
        Bench.finish();
    }

    /** A sentence that is good but for one field, and what that field's value is (null: faulty). */
    private static void field(String form, int f, String content, int what, Integer want) {
        String[] fields = form.split(",", -1);
        String[] parts = content.split(",", -1);
        System.arraycopy(parts, 0, fields, f, parts.length);
        SeaReceiver r = new SeaReceiver();
        String s = Bench.whole(String.join(",", fields));
        Bench.due("4: " + s, want == null ? 0 : 1, Bench.hear(r, s));
        Bench.due("5: faulty " + s, want == null ? 1 : 0, r.count(4));
        Bench.due("6: fix " + what + " of " + s, want == null ? Bench.NONE : want, () -> r.fix(what));
    }

    private static final String GGA = "$GPGGA,,,,,,0,,,,,,,,";
    private static final String RMC = "$GPRMC,,V,,,,,,,,,";
    private static final String VTG = "$GPVTG,,,,,,,,";

    private static void gga() {
        time(GGA, 1);
        latitude(GGA, 2);
        longitude(GGA, 4);
        for (int c = 32; c < 127; c++) {
            if (c != '$' && c != '!' && c != '*' && c != ',') {
                field(GGA, 6, "" + (char) c, 3, c >= '0' && c <= '8' ? Integer.valueOf(c - '0') : null);
            }
        }
        field(GGA, 6, "", 3, null);
        field(GGA, 6, "00", 3, null);
        field(GGA, 7, "", 4, Bench.NONE);
        field(GGA, 7, "7", 4, 7);
        field(GGA, 7, "07", 4, 7);
        field(GGA, 7, "99", 4, 99);
        field(GGA, 7, "100", 4, null);
        field(GGA, 7, "-1", 4, null);
        field(GGA, 7, "1.0", 4, null);
        field(GGA, 7, "1 ", 4, null);
        field(GGA, 8, "99.999999", 5, 9999);
        field(GGA, 8, "0", 5, 0);
        field(GGA, 8, "1.5", 5, 150);
        field(GGA, 8, "100", 5, null);
        field(GGA, 8, "-1", 5, null);
        for (int f = 9; f <= 11; f += 2) {
            int what = f == 9 ? 6 : 7;
            field(GGA, f, "-0.99,M", what, -9);
            field(GGA, f, "-0.09,M", what, 0);
            field(GGA, f, "-9999.999999,M", what, -99999);
            field(GGA, f, "12,M", what, 120);
            field(GGA, f, "12,", what, null);
            field(GGA, f, "12,m", what, null);
            field(GGA, f, "12,MM", what, null);
            field(GGA, f, ",M", what, Bench.NONE);
            field(GGA, f, ",N", what, null);
            field(GGA, f, "-,M", what, null);
            field(GGA, f, "--1,M", what, null);
            field(GGA, f, "+1,M", what, null);
            field(GGA, f, "-.1,M", what, null);
            field(GGA, f, "-1.,M", what, null);
            field(GGA, f, "-1.1234567,M", what, null);
            field(GGA, f, "1-,M", what, null);
        }
        field(GGA, 9, "-99999.9,M", 6, -999999);
        field(GGA, 9, "100000,M", 6, null);
        field(GGA, 11, "10000,M", 7, null);
        field(GGA, 13, "9999.99", 8, 99999);
        field(GGA, 13, "10000", 8, null);
        field(GGA, 13, "-1", 8, null);
        field(GGA, 14, "0000", 9, 0);
        field(GGA, 14, "1023", 9, 1023);
        field(GGA, 14, "123", 9, null);
        field(GGA, 14, "12345", 9, null);
        field(GGA, 14, "12.4", 9, null);
        SeaReceiver r = new SeaReceiver();
        Bench.hear(r, Bench.whole("$GPGGA,000000,0000,N,00000,E,4,12,1,2,M,3,M,4,0005"));
        long[] want = {0, 0, 0, 4, 12, 100, 20, 30, 40, 5};
        for (int what = 0; what < want.length; what++) {
            int w = what;
            Bench.due("6: GGA " + what, want[what], () -> r.fix(w));
        }
        Bench.hear(r, Bench.whole("$GPGGA,,,,,,9,,,,,,,,"));
        Bench.due("6: a faulty one tells nothing", 12, () -> r.fix(4));
        Bench.hear(r, Bench.whole("$GPGGA,1,,,,,3,,,,,,,,"));
        Bench.due("6: nor a part of it", 4, () -> r.fix(3));
        Bench.hear(r, Bench.whole("$GPGGA,,,,,,7,,,,,,,,"));
        for (int what = 0; what < want.length; what++) {
            int w = what;
            Bench.due("6: empty GGA " + what, what == 3 ? 7 : Bench.NONE, () -> r.fix(w));
        }
    }

    private static void time(String form, int f) {
        field(form, f, "", 0, Bench.NONE);
        field(form, f, "000000", 0, 0);
        field(form, f, "235959.999", 0, 86399999);
        field(form, f, "010203.04", 0, 3723040);
        field(form, f, "010203.4", 0, 3723400);
        field(form, f, "010203.004", 0, 3723004);
        field(form, f, "240000", 0, null);
        field(form, f, "236000", 0, null);
        field(form, f, "235960", 0, null);
        field(form, f, "235960.0", 0, null);
        field(form, f, "12345", 0, null);
        field(form, f, "1234567", 0, null);
        field(form, f, "0012345", 0, null);
        field(form, f, "123456.", 0, null);
        field(form, f, "123456.1234", 0, null);
        field(form, f, "12345a", 0, null);
        field(form, f, "123456.1a", 0, null);
        field(form, f, "123456,1", 0, null);
        field(form, f, "-12345", 0, null);
    }

    private static void latitude(String form, int f) {
        field(form, f, ",", 1, Bench.NONE);
        field(form, f, "0000,S", 1, 0);
        field(form, f, "0001,N", 1, 10000);
        field(form, f, "8959.999999,S", 1, -53999999);
        field(form, f, "9000,N", 1, 54000000);
        field(form, f, "9000.00009,S", 1, -54000000);
        field(form, f, "9000.000099,N", 1, 54000000);
        field(form, f, "9000.0001,N", 1, null);
        field(form, f, "9001,N", 1, null);
        field(form, f, "9100,N", 1, null);
        field(form, f, "9999.9999,N", 1, null);
        field(form, f, "4860,N", 1, null);
        field(form, f, "4859.9,N", 1, 29399000);
        field(form, f, "4800.1234567,N", 1, null);
        field(form, f, "4800.,N", 1, null);
        field(form, f, "480,N", 1, null);
        field(form, f, "04800,N", 1, null);
        field(form, f, "-4800,N", 1, null);
        field(form, f, "4800,", 1, null);
        field(form, f, ",N", 1, null);
        field(form, f, "4800,E", 1, null);
        field(form, f, "4800,n", 1, null);
        field(form, f, "4800,NN", 1, null);
        field(form, f, "4800.1x,N", 1, null);
    }

    private static void longitude(String form, int f) {
        field(form, f, ",", 2, Bench.NONE);
        field(form, f, "00000,W", 2, 0);
        field(form, f, "17959.999999,W", 2, -107999999);
        field(form, f, "18000,E", 2, 108000000);
        field(form, f, "18000.00009,W", 2, -108000000);
        field(form, f, "18000.0001,E", 2, null);
        field(form, f, "18001,E", 2, null);
        field(form, f, "18100,E", 2, null);
        field(form, f, "99999.999999,E", 2, null);
        field(form, f, "01160,E", 2, null);
        field(form, f, "1131,E", 2, null);
        field(form, f, "001131,E", 2, null);
        field(form, f, "01131,", 2, null);
        field(form, f, ",W", 2, null);
        field(form, f, "01131,N", 2, null);
        field(form, f, "01131.5,W", 2, -6915000);
    }

    private static void course(String form, int f, String unit, int what) {
        field(form, f, "359.999999" + unit, what, 35999);
        field(form, f, "0" + unit, what, 0);
        field(form, f, "084.4" + unit, what, 8440);
        field(form, f, "360" + unit, what, null);
        field(form, f, "360.000000" + unit, what, null);
        field(form, f, "0001" + unit, what, null);
        field(form, f, "-1" + unit, what, null);
        field(form, f, "1.1234567" + unit, what, null);
        field(form, f, "1." + unit, what, null);
        field(form, f, ".1" + unit, what, null);
        field(form, f, "." + unit, what, null);
        field(form, f, "1.1.1" + unit, what, null);
    }

    private static void speed(String form, int f, String unit, int what) {
        field(form, f, "9999.99999" + unit, what, 999999);
        field(form, f, "0.009" + unit, what, 0);
        field(form, f, "022.4" + unit, what, 2240);
        field(form, f, "10000" + unit, what, null);
        field(form, f, "-1" + unit, what, null);
    }

    private static void modes(String form, int f, String ahead) {
        for (int c = 32; c < 127; c++) {
            if (c != '$' && c != '!' && c != '*' && c != ',') {
                field(form, f, ahead + (char) c, 17, "ADEMNS".indexOf(c) >= 0 ? Integer.valueOf(c) : null);
            }
        }
        field(form, f, ahead, 17, Bench.NONE);
        field(form, f, ahead + "AA", 17, null);
    }

    private static void rmc() {
        time(RMC, 1);
        latitude(RMC, 3);
        longitude(RMC, 5);
        speed(RMC, 7, "", 11);
        course(RMC, 8, "", 12);
        modes(RMC + ",", 12, "");
        field(RMC, 2, "A", 10, 1);
        field(RMC, 2, "V", 10, 0);
        field(RMC, 2, "", 10, null);
        field(RMC, 2, "a", 10, null);
        field(RMC, 2, "AV", 10, null);
        field(RMC, 2, "0", 10, null);
        field(RMC, 9, "010100", 13, 101);
        field(RMC, 9, "311299", 13, 991231);
        field(RMC, 9, "310226", 13, 260231);
        field(RMC, 9, "001299", 13, null);
        field(RMC, 9, "321299", 13, null);
        field(RMC, 9, "010099", 13, null);
        field(RMC, 9, "011399", 13, null);
        field(RMC, 9, "01019", 13, null);
        field(RMC, 9, "0101990", 13, null);
        field(RMC, 9, "0010199", 13, null);
        field(RMC, 9, "010199.0", 13, null);
        field(RMC, 10, "180,W", 14, -1800);
        field(RMC, 10, "180.0,E", 14, 1800);
        // Digits behind are cut off, so that the value is 1800 in tenths.
        field(RMC, 10, "180.09,E", 14, 1800);
        field(RMC, 10, "180.1,E", 14, null);
        field(RMC, 10, "999.9,E", 14, null);
        field(RMC, 10, "0,W", 14, 0);
        field(RMC, 10, "3.19,W", 14, -31);
        field(RMC, 10, "0003,W", 14, null);
        field(RMC, 10, "-3,W", 14, null);
        field(RMC, 10, "3,", 14, null);
        field(RMC, 10, ",W", 14, null);
        field(RMC, 10, "3,N", 14, null);
        SeaReceiver r = new SeaReceiver();
        Bench.hear(r, Bench.whole("$GPGGA,000000,0000,N,00000,E,4,12,1,2,M,3,M,4,0005"));
        Bench.hear(r, Bench.whole("$GPVTG,1,T,2,M,3,N,4,K,A"));
        Bench.hear(r, Bench.whole("$GPRMC,000001,A,0001,S,00001,W,5,6,020304,7,E,S"));
        long[] want = {1000, -10000, -10000, 4, 12, 100, 20, 30, 40, 5, 1, 500, 600, 40302, 70, 200, 400, 'S'};
        for (int what = 0; what < want.length; what++) {
            int w = what;
            Bench.due("6: RMC " + what, want[what], () -> r.fix(w));
        }
        Bench.hear(r, Bench.whole("$GPRMC,,V,,,,,,,,,"));
        for (int what = 0; what < want.length; what++) {
            int w = what;
            boolean stays = what >= 3 && what <= 9 || what == 15 || what == 16;
            Bench.due("6: empty RMC " + what, what == 10 ? 0 : stays ? want[what] : Bench.NONE, () -> r.fix(w));
        }
    }

    private static void vtg() {
        course(VTG, 1, ",T", 12);
        course(VTG, 3, ",M", 15);
        speed(VTG, 5, ",N", 11);
        speed(VTG, 7, ",K", 16);
        modes(VTG + ",", 9, "");
        String units = "TMNK";
        for (int i = 0; i < 4; i++) {
            int what = new int[] {12, 15, 11, 16}[i];
            field(VTG, 1 + 2 * i, "5," + units.charAt(i), what, 500);
            field(VTG, 1 + 2 * i, "," + units.charAt(i), what, Bench.NONE);
            field(VTG, 1 + 2 * i, ",", what, Bench.NONE);
            field(VTG, 1 + 2 * i, "5,", what, null);
            field(VTG, 1 + 2 * i, "5," + units.charAt((i + 1) % 4), what, null);
            field(VTG, 1 + 2 * i, "," + units.charAt((i + 1) % 4), what, null);
            field(VTG, 1 + 2 * i, "5," + units.charAt(i) + units.charAt(i), what, null);
        }
        SeaReceiver r = new SeaReceiver();
        Bench.hear(r, Bench.whole("$GPRMC,000001,A,0001,S,00001,W,5,6,020304,7,E,S"));
        Bench.hear(r, Bench.whole("$GPVTG,1,T,2,M,3,N,4,K"));
        long[] want = {1000, -10000, -10000, Bench.NONE, Bench.NONE, Bench.NONE, Bench.NONE, Bench.NONE, Bench.NONE,
            Bench.NONE, 1, 300, 100, 40302, 70, 200, 400, Bench.NONE};
        for (int what = 0; what < want.length; what++) {
            int w = what;
            Bench.due("6: VTG " + what, want[what], () -> r.fix(w));
        }
    }

    private static void wrongWhat() {
        SeaReceiver r = new SeaReceiver();
        for (int what : new int[] {-1, 18, 19, 30, Integer.MIN_VALUE, Integer.MAX_VALUE}) {
            Bench.due("6: fix " + what, Bench.NO_SUCH, () -> r.fix(what));
        }
    }
}
