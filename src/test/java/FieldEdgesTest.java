import java.math.BigDecimal;
import java.math.RoundingMode;

/** Section "Terms", 1, fields and the fix: each sentence of the document that names an edge has a test of its own. */
public final class FieldEdgesTest {
    private static final String GGA = "$GPGGA,,,,,,0,,,,,,,,";
    private static final String RMC = "$GPRMC,,V,,,,,,,,,";
    private static final String VTG = "$GPVTG,,,,,,,,";
    private static final String FULL_GGA = "$GPGGA,000001,0002,N,00003,E,4,5,6,7,M,8,M,9,0010";
    private static final String FULL_RMC = "$GPRMC,000001,A,0002,N,00003,E,4,5,060708,9,E,D";
    private static final String FULL_VTG = "$GPVTG,1,T,2,M,3,N,4,K,E";

    /** Form, field, what it has behind, d, w, number in the fix. */
    private static final Object[][] DECIMALS = {
        {GGA, 8, "", 2, 2, 5}, {GGA, 9, ",M", 1, 5, 6}, {GGA, 11, ",M", 1, 4, 7}, {GGA, 13, "", 1, 4, 8},
        {RMC, 7, "", 2, 4, 11}, {RMC, 8, "", 2, 3, 12}, {RMC, 10, ",E", 1, 3, 14},
        {VTG, 1, ",T", 2, 3, 12}, {VTG, 3, ",M", 2, 3, 15}, {VTG, 5, ",N", 2, 4, 11}, {VTG, 7, ",K", 2, 4, 16}
    };

    public static void main(String[] args) {
        emptyFields();
        decimalDigits();
        decimalsCutOff();
        decimalSigns();
        signed();
        numbers();
        behindALongerOne();
        quality();
        satellites();
        status();
        modes();
        courses();
        variation();
        timeParts();
        timeBehindThePoint();
        dates();
        degrees();
        minutes();
        behindTheMinutes();
        beyondTheLast();
        sides();
        units();
        southAndWest();
        latestOfEachForm();
        takenOnly();
        latestMode();
        Bench.finish();
    }

    private static void due(long want, String form, int f, String content, int what) {
        String s = Bench.with(form, f, content);
        Bench.due(s, want, Bench.told(s, what));
    }

    private static void faulty(String form, int f, String content) {
        due(Bench.FAULTY, form, f, content, 17);
    }

    private static void emptyFields() {
        Bench.says("A FIELD may be empty where nothing else is told (its value is NONE then)");
        // Each field in turn is emptied, with its side; what stands behind the values are 1 and 2 fields.
        int[][] gga = {{1, 1, 0}, {2, 2, 1}, {4, 2, 2}, {7, 1, 4}, {8, 1, 5}, {9, 2, 6}, {9, 1, 6}, {11, 2, 7}, {11, 1, 7},
            {13, 1, 8}, {14, 1, 9}};
        int[][] rmc = {{1, 1, 0}, {3, 2, 1}, {5, 2, 2}, {7, 1, 11}, {8, 1, 12}, {9, 1, 13}, {10, 2, 14}, {12, 1, 17}};
        int[][] vtg = {{1, 2, 12}, {1, 1, 12}, {3, 2, 15}, {3, 1, 15}, {5, 2, 11}, {5, 1, 11}, {7, 2, 16}, {7, 1, 16}, {9, 1, 17}};
        emptied(FULL_GGA, gga);
        emptied(FULL_RMC, rmc);
        emptied(FULL_VTG, vtg);
        Bench.says("QUALITY: a digit 0 .. 8 (not empty)");
        faulty(FULL_GGA, 6, "");
        Bench.says("A or V (not empty)");
        faulty(FULL_RMC, 2, "");
    }

    private static void emptied(String form, int[][] fields) {
        for (int[] f : fields) {
            String s = Bench.with(form, f[0], ",".repeat(f[1] - 1));
            Bench.due(s, Bench.NONE, Bench.told(s, f[2]));
            for (int[] other : fields) {
                if (other[2] != f[2]) {
                    Bench.due(s + ", others", Bench.told(form, other[2]), Bench.told(s, other[2]));
                }
            }
        }
    }

    private static long cut(String decimal, int d) {
        return new BigDecimal(decimal).movePointRight(d).setScale(0, RoundingMode.DOWN).longValueExact();
    }

    private static void decimalDigits() {
        Bench.says("A DECIMAL of d, w: 1 to w digits, perhaps a point and 1 to 6 digits");
        for (Object[] field : DECIMALS) {
            String form = (String) field[0];
            int f = (Integer) field[1];
            int d = (Integer) field[3];
            int w = (Integer) field[4];
            int what = (Integer) field[5];
            for (int ahead = 0; ahead <= w + 2; ahead++) {
                for (int behind = -1; behind <= 8; behind++) {
                    String decimal = "1".repeat(ahead) + (behind < 0 ? "" : "." + "1".repeat(behind));
                    boolean fits = ahead >= 1 && ahead <= w && behind != 0 && behind <= 6;
                    if (!decimal.isEmpty()) {
                        due(fits ? cut(decimal, d) : Bench.FAULTY, form, f, decimal + field[2], what);
                    }
                }
            }
            due(0, form, f, "0".repeat(w) + field[2], what);
            due(0, form, f, "0.0" + field[2], what);
            due(Bench.FAULTY, form, f, "0".repeat(w + 1) + field[2], what);
            due(Bench.FAULTY, form, f, "0".repeat(w) + "1" + field[2], what);
        }
    }

    private static void decimalsCutOff() {
        Bench.says("its value counts in 10^-d; digits behind are cut off");
        for (Object[] field : DECIMALS) {
            int d = (Integer) field[3];
            for (String decimal : new String[] {"7", "7.1", "7.12", "7.19", "7.123", "7.129", "7.999999", "0.9", "0.09", "0.009",
                "0.000009", "10.05", "10.50"}) {
                due(cut(decimal, d), (String) field[0], (Integer) field[1], decimal + field[2], (Integer) field[5]);
            }
        }
        due(9999, GGA, 8, "99.999999", 5);
        due(999999, GGA, 9, "99999.999999,M", 6);
        due(99999, GGA, 11, "9999.999999,M", 7);
        due(99999, GGA, 13, "9999.999999", 8);
        due(999999, RMC, 7, "9999.999999", 11);
        due(999999, VTG, 5, "9999.999999,N", 11);
        due(999999, VTG, 7, "9999.999999,K", 16);
    }

    private static void decimalSigns() {
        Bench.says("A DECIMAL: digits, perhaps a point (nothing else)");
        for (Object[] field : DECIMALS) {
            for (char c : Bench.FIELD_SIGNS.toCharArray()) {
                boolean digit = c >= '0' && c <= '9';
                boolean isSigned = (Integer) field[5] == 6 || (Integer) field[5] == 7;
                if (!digit) {
                    faulty((String) field[0], (Integer) field[1], "1" + c + field[2]);
                    faulty((String) field[0], (Integer) field[1], "1.1" + c + field[2]);
                    faulty((String) field[0], (Integer) field[1], "1." + c + field[2]);
                    faulty((String) field[0], (Integer) field[1], c + "" + field[2]);
                    if (c != '-' || !isSigned) {
                        faulty((String) field[0], (Integer) field[1], c + "1" + field[2]);
                    }
                    if (c != '.') {
                        faulty((String) field[0], (Integer) field[1], "1" + c + "1" + field[2]);
                    }
                }
            }
        }
    }

    private static void signed() {
        Bench.says("SIGNED: perhaps - ahead");
        for (int f = 9; f <= 11; f += 2) {
            int what = f == 9 ? 6 : 7;
            due(-10, GGA, f, "-1,M", what);
            due(-19, GGA, f, "-1.99,M", what);
            due(-1, GGA, f, "-0.1,M", what);
            due(0, GGA, f, "-0.09,M", what);
            due(0, GGA, f, "-0,M", what);
            due(-99999, GGA, f, "-9999.999999,M", what);
            for (String content : new String[] {"-", "--1", "-+1", "+1", "1-", "-.1", "-1.", "- 1", "-1.1234567", "0-1", "1.-1"}) {
                faulty(GGA, f, content + ",M");
            }
        }
        Bench.says("HEIGHT: SIGNED of 1, 5; GEOID: SIGNED of 1, 4");
        due(-999999, GGA, 9, "-99999.999999,M", 6);
        faulty(GGA, 9, "-100000,M");
        faulty(GGA, 9, "-000000,M");
        faulty(GGA, 11, "-10000,M");
        faulty(GGA, 11, "-00000,M");
    }

    private static void numbers() {
        Bench.says("A NUMBER of d: just so many digits; STATION: a NUMBER of 4");
        for (int n = 1; n <= 8; n++) {
            due(n == 4 ? 1111 : Bench.FAULTY, GGA, 14, "1".repeat(n), 9);
        }
        due(0, GGA, 14, "0000", 9);
        due(9999, GGA, 14, "9999", 9);
        for (char c : Bench.FIELD_SIGNS.toCharArray()) {
            for (int place = 0; place < 4; place++) {
                String number = "0000".substring(0, place) + c + "0000".substring(place + 1);
                boolean digit = c >= '0' && c <= '9';
                due(digit ? Integer.parseInt(number) : Bench.FAULTY, GGA, 14, number, 9);
            }
        }
        faulty(GGA, 14, "0000.0");
        faulty(GGA, 14, "-0000");
        faulty(GGA, 14, "-000");
    }

    private static void behindALongerOne() {
        Bench.says("its FIELDS are what stands between commas (nothing of a sentence that was there before)");
        SeaReceiver r = Bench.heard(Bench.whole("$GPGGA,,,,,,0,,,,,,,,12345678"));
        Bench.due("eight digits", "0 0 0 0 1, 0", Bench.tallies(r));
        Bench.hear(r, Bench.whole("$GPGGA,,,,,,0,,,,,,,,123"));
        Bench.due("three digits", "0 0 0 0 2, 0", Bench.tallies(r));
        Bench.hear(r, Bench.whole("$GPGGA,,,,,,0,,,,,,,,1234"));
        Bench.due("four digits", 1234, () -> r.fix(9));
        Bench.hear(r, Bench.whole("$GPGGA,,,,,,0,,,,,,,,"));
        Bench.due("none", Bench.NONE, () -> r.fix(9));
        Bench.hear(r, Bench.whole("!AIVDM,1,1,,A,1,00") + Bench.whole("!AIVDM,1,1,,A,1,"));
        Bench.due("two digits, none", "2 0 0 0 4, 0", Bench.tallies(r));
        Bench.hear(r, Bench.whole("!AIVDM,1,1,,A,1,0") + Bench.whole("$GPVTG") + Bench.whole("$GPVTG,,,,,,,,"));
        Bench.due("one digit, an address alone, commas alone", "4 0 0 0 5, 0", Bench.tallies(r));
    }

    private static void quality() {
        Bench.says("QUALITY: a digit 0 .. 8");
        for (char c : Bench.FIELD_SIGNS.toCharArray()) {
            due(c >= '0' && c <= '8' ? c - '0' : Bench.FAULTY, GGA, 6, "" + c, 3);
        }
        for (String content : new String[] {"00", "01", "10", "1.0", "-1", " 1", "1 "}) {
            faulty(GGA, 6, content);
        }
    }

    private static void satellites() {
        Bench.says("SATELLITES: 1 or 2 digits");
        for (char c : Bench.FIELD_SIGNS.toCharArray()) {
            boolean digit = c >= '0' && c <= '9';
            due(digit ? c - '0' : Bench.FAULTY, GGA, 7, "" + c, 4);
            due(digit ? c - '0' + 10 : Bench.FAULTY, GGA, 7, "1" + c, 4);
            due(digit ? 10 * (c - '0') + 1 : Bench.FAULTY, GGA, 7, c + "1", 4);
        }
        due(0, GGA, 7, "00", 4);
        due(99, GGA, 7, "99", 4);
        faulty(GGA, 7, "000");
        faulty(GGA, 7, "100");
        faulty(GGA, 7, "1.0");
    }

    private static void status() {
        Bench.says("A or V; what 10: 1 for A, 0 for V");
        for (char c : Bench.FIELD_SIGNS.toCharArray()) {
            due(c == 'A' ? 1 : c == 'V' ? 0 : Bench.FAULTY, RMC, 2, "" + c, 10);
        }
        faulty(RMC, 2, "AA");
        faulty(RMC, 2, "VA");
    }

    private static void modes() {
        Bench.says("the 13th one of A D E M N S; the 10th one of A D E M N S");
        for (char c : Bench.FIELD_SIGNS.toCharArray()) {
            boolean fits = "ADEMNS".indexOf(c) >= 0;
            due(fits ? c : Bench.FAULTY, RMC + ",", 12, "" + c, 17);
            due(fits ? c : Bench.FAULTY, VTG + ",", 9, "" + c, 17);
        }
        faulty(RMC + ",", 12, "AD");
        faulty(VTG + ",", 9, "AD");
        due(Bench.NONE, RMC + ",", 12, "", 17);
        due(Bench.NONE, VTG + ",", 9, "", 17);
    }

    private static void courses() {
        Bench.says("COURSE: of 2, 3, below 360; the magnetic one likewise");
        Object[][] courses = {{RMC, 8, "", 12}, {VTG, 1, ",T", 12}, {VTG, 3, ",M", 15}};
        for (Object[] c : courses) {
            for (String degrees : new String[] {"0", "00", "000", "359", "359.99", "359.999", "359.999999", "60", "099"}) {
                due(cut(degrees, 2), (String) c[0], (Integer) c[1], degrees + c[2], (Integer) c[3]);
            }
            for (String degrees : new String[] {"360", "360.0", "360.000000", "360.000001", "361", "400", "999", "999.999999", "0359",
                "-0", "-1"}) {
                faulty((String) c[0], (Integer) c[1], degrees + c[2]);
            }
        }
    }

    private static void variation() {
        Bench.says("VARIATION: of 1, 3, at most 180");
        due(1799, RMC, 10, "179.999999,E", 14);
        due(1800, RMC, 10, "180,E", 14);
        due(1800, RMC, 10, "180.000000,E", 14);
        due(-1800, RMC, 10, "180.0,W", 14);
        for (String degrees : new String[] {"180.1", "180.100000", "181", "200", "999", "999.999999", "0180", "-1"}) {
            faulty(RMC, 10, degrees + ",E");
            faulty(RMC, 10, degrees + ",W");
        }
        Bench.says("VARIATION: of 1 .., at most 180 (digits behind the first are cut off)");
        due(1800, RMC, 10, "180.09,E", 14);
        due(-1800, RMC, 10, "180.099999,W", 14);
    }

    private static String two(int n) {
        return String.format("%02d", n);
    }

    private static void timeParts() {
        Bench.says("TIME: a NUMBER of 6, hours 0 .. 23, minutes, seconds 0 .. 59");
        for (String form : new String[] {GGA, RMC}) {
            for (int n = 0; n < 100; n++) {
                due(n < 24 ? n * 3600000 : Bench.FAULTY, form, 1, two(n) + "0000", 0);
                due(n < 60 ? n * 60000 : Bench.FAULTY, form, 1, "00" + two(n) + "00", 0);
                due(n < 60 ? n * 1000 : Bench.FAULTY, form, 1, "0000" + two(n), 0);
                due(n < 24 ? n * 3600000 + 3599999 : Bench.FAULTY, form, 1, two(n) + "5959.999", 0);
            }
            due(86399999, form, 1, "235959.999", 0);
            for (int n = 1; n <= 9; n++) {
                due(n == 6 ? 0 : Bench.FAULTY, form, 1, "0".repeat(n), 0);
                due(n == 6 ? 0 : Bench.FAULTY, form, 1, "0".repeat(n) + ".0", 0);
            }
            for (char c : Bench.FIELD_SIGNS.toCharArray()) {
                for (int place = 0; place < 6 && (c < '0' || c > '9'); place++) {
                    faulty(form, 1, "000000".substring(0, place) + c + "000000".substring(place + 1));
                }
            }
        }
    }

    private static void timeBehindThePoint() {
        Bench.says("TIME: .. perhaps a point and 1 to 3 digits: milliseconds of the day");
        for (String form : new String[] {GGA, RMC}) {
            due(7000, form, 1, "000007", 0);
            faulty(form, 1, "000007.");
            due(7900, form, 1, "000007.9", 0);
            due(7980, form, 1, "000007.98", 0);
            due(7987, form, 1, "000007.987", 0);
            due(7001, form, 1, "000007.001", 0);
            faulty(form, 1, "000007.9876");
            faulty(form, 1, "000007.0000");
            faulty(form, 1, "000060.0");
            faulty(form, 1, ".123");
            for (char c : Bench.FIELD_SIGNS.toCharArray()) {
                if (c < '0' || c > '9') {
                    faulty(form, 1, "000007" + c);
                    faulty(form, 1, "000007." + c);
                    faulty(form, 1, "000007.1" + c);
                    faulty(form, 1, "000007.12" + c);
                }
                if (c != '.') {
                    faulty(form, 1, "000007" + c + "1");
                }
            }
        }
    }

    private static void dates() {
        Bench.says("DATE: a NUMBER of 6: day 1 .. 31, month 1 .. 12, year: day + 100 month + 10000 year");
        for (int n = 0; n < 100; n++) {
            due(n >= 1 && n <= 31 ? n + 100 : Bench.FAULTY, RMC, 9, two(n) + "0100", 13);
            due(n >= 1 && n <= 12 ? 1 + 100 * n : Bench.FAULTY, RMC, 9, "01" + two(n) + "00", 13);
            due(101 + 10000 * n, RMC, 9, "0101" + two(n), 13);
        }
        due(260231, RMC, 9, "310226", 13);
        due(991231, RMC, 9, "311299", 13);
        for (int n = 1; n <= 9; n++) {
            due(n == 6 ? 111111 : Bench.FAULTY, RMC, 9, "1".repeat(n), 13);
        }
        for (char c : Bench.FIELD_SIGNS.toCharArray()) {
            for (int place = 0; place < 6 && (c < '0' || c > '9'); place++) {
                faulty(RMC, 9, "111111".substring(0, place) + c + "111111".substring(place + 1));
            }
        }
        faulty(RMC, 9, "0111111");
        faulty(RMC, 9, "1111110");
        faulty(RMC, 9, "11111");
        faulty(RMC, 9, "111111.1");
    }

    /** In each form that has them: the form, the fields of latitude and longitude. */
    private static final Object[][] PLACES = {{GGA, 2, 4}, {RMC, 3, 5}};

    private static void degrees() {
        Bench.says("LATITUDE: a NUMBER of 4 (degrees 0 .. 90); LONGITUDE likewise a NUMBER of 5 (degrees 0 .. 180)");
        for (Object[] p : PLACES) {
            String form = (String) p[0];
            for (int n = 0; n < 100; n++) {
                due(n <= 90 ? 600000 * n : Bench.FAULTY, form, (Integer) p[1], two(n) + "00,N", 1);
            }
            for (int n = 0; n < 1000; n++) {
                due(n <= 180 ? 600000 * n : Bench.FAULTY, form, (Integer) p[2], String.format("%03d00,E", n), 2);
            }
            for (int n = 1; n <= 8; n++) {
                due(n == 4 ? 0 : Bench.FAULTY, form, (Integer) p[1], "0".repeat(n) + ",N", 1);
                due(n == 5 ? 0 : Bench.FAULTY, form, (Integer) p[2], "0".repeat(n) + ",E", 2);
                due(n == 4 ? 1000 : Bench.FAULTY, form, (Integer) p[1], "0".repeat(n) + ".1,N", 1);
                due(n == 5 ? 1000 : Bench.FAULTY, form, (Integer) p[2], "0".repeat(n) + ".1,E", 2);
            }
            for (char c : Bench.FIELD_SIGNS.toCharArray()) {
                for (int place = 0; place < 5 && (c < '0' || c > '9'); place++) {
                    String five = "00000".substring(0, place) + c + "00000".substring(place + 1);
                    faulty(form, (Integer) p[2], five + ",E");
                    faulty(form, (Integer) p[1], five.substring(place == 0 ? 0 : 1).substring(0, 4) + ",N");
                }
            }
        }
    }

    private static void minutes() {
        Bench.says("LATITUDE: .. (.., minutes 0 .. 59)");
        for (Object[] p : PLACES) {
            for (int n = 0; n < 100; n++) {
                String form = (String) p[0];
                due(n <= 59 ? 7200000 + 10000 * n : Bench.FAULTY, form, (Integer) p[1], "12" + two(n) + ",N", 1);
                due(n <= 59 ? 7200000 + 10000 * n : Bench.FAULTY, form, (Integer) p[2], "012" + two(n) + ",E", 2);
                due(n <= 59 ? 7209999 + 10000 * n : Bench.FAULTY, form, (Integer) p[1], "12" + two(n) + ".9999,N", 1);
                due(n <= 59 ? 7209999 + 10000 * n : Bench.FAULTY, form, (Integer) p[2], "012" + two(n) + ".9999,E", 2);
            }
        }
    }

    private static void behindTheMinutes() {
        Bench.says("LATITUDE: .. perhaps a point and 1 to 6 digits: in 10^-4 minutes");
        String[] behind = {"", ".", ".1", ".12", ".123", ".1234", ".12345", ".123459", ".1234567", ".00009", ".999999", "..1", ".1.",
            ".1a", ".a", ",", "x1", ".-1"};
        long no = Bench.FAULTY;
        long[] want = {0, no, 1000, 1200, 1230, 1234, 1234, 1234, no, 0, 9999, no, no, no, no, no, no, no};
        for (Object[] p : PLACES) {
            for (int i = 0; i < behind.length; i++) {
                due(want[i], (String) p[0], (Integer) p[1], "0000" + (behind[i] + ",N").replace(",,N", ",a"), 1);
                due(want[i], (String) p[0], (Integer) p[2], "00000" + (behind[i] + ",E").replace(",,E", ",a"), 2);
            }
        }
    }

    private static void beyondTheLast() {
        Bench.says("beyond 90 (180) degrees, digits behind the fourth cut off, it is not as told");
        String[] behind = {"00", "00.0", "00.0000", "00.00009", "00.000099", "00.000000", "00.0001", "00.000100", "00.1", "00.9", "01",
            "01.0", "59.9999"};
        for (Object[] p : PLACES) {
            for (int i = 0; i < behind.length; i++) {
                long no = Bench.FAULTY;
                due(i < 6 ? 54000000 : no, (String) p[0], (Integer) p[1], "90" + behind[i] + ",N", 1);
                due(i < 6 ? -54000000 : no, (String) p[0], (Integer) p[1], "90" + behind[i] + ",S", 1);
                due(i < 6 ? 108000000 : no, (String) p[0], (Integer) p[2], "180" + behind[i] + ",E", 2);
                due(i < 6 ? -108000000 : no, (String) p[0], (Integer) p[2], "180" + behind[i] + ",W", 2);
            }
            due(53999999, (String) p[0], (Integer) p[1], "8959.999999,N", 1);
            due(107999999, (String) p[0], (Integer) p[2], "17959.999999,E", 2);
        }
    }

    private static void sides() {
        Bench.says("What tells a side (N, S, E, W) .. stands with its value, or both are empty");
        Object[][] sides = {{GGA, 2, "0001", "NS", 1, 10000}, {GGA, 4, "00001", "EW", 2, 10000}, {RMC, 3, "0001", "NS", 1, 10000},
            {RMC, 5, "00001", "EW", 2, 10000}, {RMC, 10, "1", "EW", 14, 10}};
        for (Object[] s : sides) {
            String form = (String) s[0];
            int f = (Integer) s[1];
            String both = (String) s[3];
            int what = (Integer) s[4];
            due(Bench.NONE, form, f, ",", what);
            faulty(form, f, s[2] + ",");
            faulty(form, f, s[2] + "," + both);
            faulty(form, f, s[2] + "," + both.charAt(0) + both.charAt(0));
            for (char c : Bench.FIELD_SIGNS.toCharArray()) {
                int value = (Integer) s[5];
                due(c == both.charAt(0) ? value : c == both.charAt(1) ? -value : Bench.FAULTY, form, f, s[2] + "," + c, what);
                faulty(form, f, "," + c);
            }
        }
    }

    private static void units() {
        Bench.says("a unit may stand without its value, but no value without its unit (M, T, N, K; the sign or empty)");
        Object[][] units = {{GGA, 9, 'M', 6, 10}, {GGA, 11, 'M', 7, 10}, {VTG, 1, 'T', 12, 100}, {VTG, 3, 'M', 15, 100},
            {VTG, 5, 'N', 11, 100}, {VTG, 7, 'K', 16, 100}};
        for (Object[] u : units) {
            String form = (String) u[0];
            int f = (Integer) u[1];
            int what = (Integer) u[3];
            due(Bench.NONE, form, f, ",", what);
            faulty(form, f, "1,");
            faulty(form, f, "0,");
            faulty(form, f, "1," + u[2] + u[2]);
            faulty(form, f, "," + u[2] + u[2]);
            for (char c : Bench.FIELD_SIGNS.toCharArray()) {
                boolean fits = c == (Character) u[2];
                due(fits ? (Integer) u[4] : Bench.FAULTY, form, f, "1," + c, what);
                due(fits ? Bench.NONE : Bench.FAULTY, form, f, "," + c, what);
            }
        }
    }

    private static void southAndWest() {
        Bench.says("S, W: the value below 0");
        for (Object[] p : PLACES) {
            due(-1, (String) p[0], (Integer) p[1], "0000.0001,S", 1);
            due(0, (String) p[0], (Integer) p[1], "0000.00009,S", 1);
            due(-1, (String) p[0], (Integer) p[2], "00000.0001,W", 2);
            due(0, (String) p[0], (Integer) p[2], "00000,W", 2);
            due(1, (String) p[0], (Integer) p[1], "0000.0001,N", 1);
            due(1, (String) p[0], (Integer) p[2], "00000.0001,E", 2);
        }
        due(-1, RMC, 10, "0.1,W", 14);
        due(0, RMC, 10, "0.09,W", 14);
        due(1, RMC, 10, "0.1,E", 14);
    }

    private static void dueFix(SeaReceiver r, String when, long... want) {
        for (int what = 0; what < want.length; what++) {
            int w = what;
            Bench.due(when + ", fix " + what, want[what], () -> r.fix(w));
        }
    }

    private static void latestOfEachForm() {
        Bench.says("each value that a FORM has as that of the latest such sentence (NONE as of an empty field)");
        long n = Bench.NONE;
        SeaReceiver r = Bench.heard(Bench.whole(FULL_GGA));
        dueFix(r, "GGA", 1000, 20000, 30000, 4, 5, 600, 70, 80, 90, 10, n, n, n, n, n, n, n, n);
        Bench.hear(r, Bench.whole(FULL_VTG));
        dueFix(r, "VTG", 1000, 20000, 30000, 4, 5, 600, 70, 80, 90, 10, n, 300, 100, n, n, 200, 400, 'E');
        Bench.hear(r, Bench.whole("$GPRMC,000009,A,0008,S,00007,W,6,5,040302,1,W,D"));
        dueFix(r, "RMC", 9000, -80000, -70000, 4, 5, 600, 70, 80, 90, 10, 1, 600, 500, 20304, -10, 200, 400, 'D');
        Bench.hear(r, Bench.whole(VTG));
        dueFix(r, "empty VTG", 9000, -80000, -70000, 4, 5, 600, 70, 80, 90, 10, 1, n, n, 20304, -10, n, n, n);
        Bench.hear(r, Bench.whole(FULL_VTG));
        Bench.hear(r, Bench.whole(RMC));
        dueFix(r, "empty RMC", n, n, n, 4, 5, 600, 70, 80, 90, 10, 0, n, n, n, n, 200, 400, n);
        Bench.hear(r, Bench.whole(FULL_RMC));
        Bench.hear(r, Bench.whole(GGA));
        dueFix(r, "empty GGA", n, n, n, 0, n, n, n, n, n, n, 1, 400, 500, 80706, 90, 200, 400, 'D');
    }

    private static void takenOnly() {
        Bench.says("THE FIX has what GGA, RMC and VTG told that was TAKEN");
        // Each field in turn is not as told: nothing of the sentence counts, whichever field it is.
        for (String form : new String[] {FULL_GGA, FULL_RMC, FULL_VTG}) {
            int fields = form.split(",", -1).length;
            for (int f = 1; f < fields; f++) {
                SeaReceiver r = Bench.heard(Bench.whole(Bench.with(form, f, "?")));
                Bench.due(form + ", field " + f, "0 0 0 0 1, 0", Bench.tallies(r));
                for (int what = 0; what <= 17; what++) {
                    int w = what;
                    Bench.due(form + ", field " + f + ", fix " + what, Bench.NONE, () -> r.fix(w));
                }
            }
            SeaReceiver wrong = Bench.heard(form + "*00\r\n" + Bench.whole(form + ",,,") + Bench.whole("!" + form.substring(1)) + form);
            for (int what = 0; what <= 17; what++) {
                int w = what;
                Bench.due(form + " not taken, fix " + what, Bench.NONE, () -> wrong.fix(w));
            }
        }
    }

    private static void latestMode() {
        Bench.says("the sign of the 13th field of RMC, the 10th of VTG (the latest one of both; NONE without)");
        SeaReceiver r = Bench.heard(Bench.whole(RMC + ",A"));
        Bench.due("RMC", 'A', () -> r.fix(17));
        Bench.hear(r, Bench.whole(VTG + ",D"));
        Bench.due("VTG behind it", 'D', () -> r.fix(17));
        Bench.hear(r, Bench.whole(GGA));
        Bench.due("GGA has none", 'D', () -> r.fix(17));
        Bench.hear(r, Bench.whole(RMC));
        Bench.due("RMC of 12 fields", Bench.NONE, () -> r.fix(17));
        Bench.hear(r, Bench.whole(RMC + ",S"));
        Bench.due("RMC again", 'S', () -> r.fix(17));
        Bench.hear(r, Bench.whole(VTG));
        Bench.due("VTG of 9 fields", Bench.NONE, () -> r.fix(17));
        Bench.hear(r, Bench.whole(VTG + ",N"));
        Bench.hear(r, Bench.whole(RMC + ","));
        Bench.due("RMC with an empty one", Bench.NONE, () -> r.fix(17));
        Bench.hear(r, Bench.whole(RMC + ",M"));
        Bench.hear(r, Bench.whole(VTG + ","));
        Bench.due("VTG with an empty one", Bench.NONE, () -> r.fix(17));
        Bench.hear(r, Bench.whole(VTG + ",E"));
        Bench.hear(r, Bench.whole(RMC + ",X"));
        Bench.due("a faulty one tells none", 'E', () -> r.fix(17));
    }
}
