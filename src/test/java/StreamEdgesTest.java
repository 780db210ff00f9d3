/** Section "Terms", 1, the stream: each sentence of the document that names an edge has a test of its own. */
public final class StreamEdgesTest {
    private static final String BEGINS = "$!";

    public static void main(String[] args) {
        lengths();
        signs();
        sumDigits();
        lineEnd();
        beginAnywhere();
        theSeventyNinth();
        passedOver();
        outside();
        endsAtItsTen();
        overSeveralCalls();
        wrongSums();
        wrongAheadOfAllElse();
        addressLengths();
        addressSigns();
        formsOfTheOther();
        fieldCounts();
        Bench.finish();
    }

    private static boolean begins(int c) {
        return c == '$' || c == '!';
    }

    private static void lengths() {
        Bench.says("A SENTENCE: $ or !, 1 to 78 signs");
        for (int n = 0; n <= 81; n++) {
            for (char begin : BEGINS.toCharArray()) {
                boolean stands = n >= 1 && n <= 78;
                Bench.becomes(Bench.whole(begin + "A".repeat(n)), stands ? "0 0 0 1 0, 0" : "0 1 0 0 0, 0");
            }
        }
    }

    private static void signs() {
        Bench.says("signs 32 .. 126 that are none of $ ! *");
        for (int ahead : new int[] {0, 1, 40, 77}) {
            for (int c = 0; c < 256; c++) {
                if (!begins(c) && c != '*') {
                    boolean stands = c >= 32 && c <= 126;
                    String want = stands ? "0 0 0 0 0, " + (ahead + 2) : "0 1 0 0 0, 0";
                    Bench.becomes("$" + "A".repeat(ahead) + (char) c, want);
                }
            }
        }
        Bench.becomes("$*", "0 1 0 0 0, 0");
        Bench.becomes("!*00\r\n", "0 1 0 0 0, 0");
        Bench.becomes("$A*", "0 0 0 0 0, 2");
        Bench.becomes("$A*B*", "0 1 0 0 0, 0");
    }

    private static void sumDigits() {
        Bench.says("two digits of sixteen (0 .. 9, A .. F)");
        for (int c = 0; c < 256; c++) {
            if (!begins(c)) {
                boolean stands = c >= '0' && c <= '9' || c >= 'A' && c <= 'F';
                Bench.becomes("$A*" + (char) c, stands ? "0 0 0 0 0, 2" : "0 1 0 0 0, 0");
                Bench.becomes("$A*4" + (char) c, stands ? "0 0 0 0 0, 2" : "0 1 0 0 0, 0");
                String end = c == '1' ? "0 0 0 1 0, 0" : stands ? "0 0 1 0 0, 0" : "0 1 0 0 0, 0";
                Bench.becomes("$A*4" + (char) c + "\r\n", end);
            }
        }
        // The value of each digit: of signs 32 .. 126 the number of sixteen has all digits behind, 2 .. 7 ahead.
        for (char c = 32; c < 127; c++) {
            if ("$!*".indexOf(c) < 0) {
                Bench.becomes(String.format("$%c*%02X\r\n", c, (int) c), "0 0 0 1 0, 0");
            }
        }
        for (int high = 8; high <= 15; high++) {
            Bench.becomes(String.format("$A*%X1\r\n", high), "0 0 1 0 0, 0");
        }
        Bench.becomes("$A*1\r\n", "0 1 0 0 0, 0");
        Bench.becomes("$A*\r\n", "0 1 0 0 0, 0");
        Bench.becomes("$A*041\r\n", "0 1 0 0 0, 0");
    }

    private static void lineEnd() {
        Bench.says("13, 10");
        for (int c = 0; c < 256; c++) {
            if (!begins(c)) {
                Bench.becomes("$A*41" + (char) c, c == 13 ? "0 0 0 0 0, 2" : "0 1 0 0 0, 0");
                Bench.becomes("$A*41\r" + (char) c, c == 10 ? "0 0 0 1 0, 0" : "0 1 0 0 0, 0");
            }
        }
    }

    private static void beginAnywhere() {
        Bench.says("$ and ! begin a sentence anywhere (one that was begun is BROKEN then)");
        String whole = "$A*41\r";
        for (char begin : BEGINS.toCharArray()) {
            Bench.becomes("" + begin, "0 0 0 0 0, 1");
            Bench.becomes("A*41\r\n" + begin, "0 0 0 0 0, 1");
            for (int n = 1; n <= whole.length(); n++) {
                Bench.becomes(whole.substring(0, n) + begin, "0 1 0 0 0, 1");
                Bench.becomes(whole.substring(0, n) + begin + "A*41\r\n", "0 1 0 1 0, 0");
            }
            Bench.becomes("$A*41\r\n" + begin, "0 0 0 1 0, 1");
            Bench.becomes("$" + "A".repeat(78) + begin, "0 1 0 0 0, 1");
            Bench.becomes("$A\t" + begin, "0 1 0 0 0, 1");
        }
        Bench.becomes("$$!!$", "0 4 0 0 0, 1");
        // What the broken one had is no part of the next one: its signs, its sum, its digits.
        Bench.becomes("$BCD!A*41\r\n", "0 1 0 1 0, 0");
        Bench.becomes("$A*7$A*41\r\n", "0 1 0 1 0, 0");
        Bench.becomes("$" + "A".repeat(78) + "$" + "A".repeat(78) + "*00\r\n", "0 1 0 1 0, 0");
        // The latest one of both begins it: a VTG of $ behind a broken !.
        Bench.becomes("!" + Bench.whole("$GPVTG,,,,,,,,"), "1 1 0 0 0, 0");
        Bench.becomes("$" + Bench.whole("!GPVTG,,,,,,,,"), "0 1 0 1 0, 0");
    }

    private static void theSeventyNinth() {
        Bench.says("a sign that can't stand there (also the 79th) makes it BROKEN");
        String full = "$" + "A".repeat(78);
        Bench.becomes(full, "0 0 0 0 0, 79");
        Bench.becomes(full + "*", "0 0 0 0 0, 79");
        Bench.becomes(full + "*00\r", "0 0 0 0 0, 79");
        Bench.becomes(full + "*00\r\n", "0 0 0 1 0, 0");
        for (char c = 32; c < 127; c++) {
            if ("$!*".indexOf(c) < 0) {
                Bench.becomes(full + c, "0 1 0 0 0, 0");
            }
        }
        Bench.becomes(full + "A*41\r\n", "0 1 0 0 0, 0");
        Bench.becomes(full + "AAAA$A*41\r\n", "0 1 0 1 0, 0");
    }

    private static void passedOver() {
        Bench.says("and all is passed over up to the next $ or !");
        for (String broken : new String[] {"$\t", "$A\r", "$A*4G", "$A*41\n", "$A*41\r\r", "$*", "!" + "A".repeat(79)}) {
            Bench.becomes(broken + "A*41\r\n*41\r\n1\r\n\r\n\n", "0 1 0 0 0, 0");
            Bench.becomes(broken + "A\tB*00\t$A*41\r\n", "0 1 0 1 0, 0");
            Bench.becomes(broken + "A\tB*00\t!A*41\r\n", "0 1 0 1 0, 0");
        }
    }

    private static void outside() {
        Bench.says("outside all others are passed over");
        for (int c = 0; c < 256; c++) {
            if (!begins(c)) {
                Bench.becomes("" + (char) c, "0 0 0 0 0, 0");
                Bench.becomes((char) c + "$A*41\r\n" + (char) c, "0 0 0 1 0, 0");
            }
        }
    }

    private static void endsAtItsTen() {
        Bench.says("At its 10 it ENDS");
        String s = Bench.whole("$GPVTG,5,T,,,,,,");
        SeaReceiver r = new SeaReceiver();
        Bench.due("ahead of its 10", 0, Bench.hear(r, s.substring(0, s.length() - 1)));
        Bench.due("ahead of its 10", "0 0 0 0 0, 16", Bench.tallies(r));
        Bench.due("ahead of its 10", Bench.NONE, () -> r.fix(12));
        Bench.due("its 10", 1, Bench.hear(r, "\n"));
        Bench.due("its 10", "1 0 0 0 0, 0", Bench.tallies(r));
        Bench.due("its 10", 500, () -> r.fix(12));
        Bench.due("a second 10", 0, Bench.hear(r, "\n"));
        Bench.due("a second 10", "1 0 0 0 0, 0", Bench.tallies(r));
    }

    private static void overSeveralCalls() {
        Bench.says("It may go on over several calls");
        String s = Bench.whole("$GPVTG,5,T,,,,,,");
        SeaReceiver r = new SeaReceiver();
        for (int i = 0; i < s.length(); i++) {
            Bench.due("sign " + i, i == s.length() - 1 ? 1 : 0, Bench.hear(r, s.substring(i, i + 1)));
            Bench.due("no sign", 0, r.stream());
        }
        Bench.due("sign by sign", "1 0 0 0 0, 0", Bench.tallies(r));
        Bench.hear(r, "$GPVTG,7");
        r.end(0);
        r.feed(0, 0, 0, 0, 0);
        r.end(0);
        Bench.due("what is ended away is not heard", 8, r.count(12));
        Bench.hear(r, Bench.whole("$GPVTG,7,T,,,,,,").substring(8));
        Bench.due("other calls between", "2 0 0 0 0, 0", Bench.tallies(r));
    }

    private static void wrongSums() {
        Bench.says("WRONG, if the two digits are not the exclusive or of all signs between the first one and *");
        // G ^ P ^ V ^ T ^ G, and an even number of commas.
        String body = "GPVTG,,,,,,,,";
        int right = 0x52;
        for (int sum = 0; sum < 256; sum++) {
            String s = String.format("$%s*%02X\r\n", body, sum);
            Bench.becomes(s, sum == right ? "1 0 0 0 0, 0" : "0 0 1 0 0, 0");
        }
        Bench.becomes("$GPVTG,,T,,M,,N,,K*4E\r\n", "1 0 0 0 0, 0");
        Bench.becomes("$AA*00\r\n", "0 0 0 1 0, 0");
        Bench.becomes("$AA*24\r\n", "0 0 1 0 0, 0");
        Bench.becomes("$AA*2A\r\n", "0 0 1 0 0, 0");
        Bench.becomes("!AA*21\r\n", "0 0 1 0 0, 0");
        Bench.becomes("$,*2C\r\n", "0 0 0 1 0, 0");
    }

    private static void wrongAheadOfAllElse() {
        Bench.says("One that ENDS: WRONG .. Else its FIELDS");
        Bench.becomes("$GPZDA*00\r\n", "0 0 1 0 0, 0");
        Bench.becomes("$GPGGA*00\r\n", "0 0 1 0 0, 0");
        SeaReceiver r = Bench.heard("!AIVDM,1,1,,A,1,0*18\r\n$GPVTG,5,T,,,,,,*00\r\n");
        Bench.due("both", "0 0 2 0 0, 0", Bench.tallies(r));
        Bench.due("a wrong one tells nothing", Bench.NONE, () -> r.fix(12));
        Bench.due("nor is it a message", 0, r.count(6));
    }

    private static void addressLengths() {
        Bench.says("ADDRESS: five signs");
        Bench.becomes(Bench.whole("$,,,,,,,,"), "0 0 0 1 0, 0");
        Bench.becomes(Bench.whole("$VTG,,,,,,,,"), "0 0 0 1 0, 0");
        Bench.becomes(Bench.whole("$PVTG,,,,,,,,"), "0 0 0 1 0, 0");
        Bench.becomes(Bench.whole("$GPVTG,,,,,,,,"), "1 0 0 0 0, 0");
        Bench.becomes(Bench.whole("$GPSVTG,,,,,,,,"), "0 0 0 1 0, 0");
        Bench.becomes(Bench.whole("$GPVTGS,,,,,,,,"), "0 0 0 1 0, 0");
        Bench.becomes(Bench.whole("$GPVT,G,,,,,,,"), "0 0 0 1 0, 0");
        Bench.becomes(Bench.whole("$,GPVTG,,,,,,,"), "0 0 0 1 0, 0");
        Bench.becomes(Bench.whole("$GPVTG"), "0 0 0 0 1, 0");
        Bench.becomes(Bench.whole("!IVDM,1,1,,A,1,0"), "0 0 0 1 0, 0");
        Bench.becomes(Bench.whole("!AIVDM,1,1,,A,1,0"), "1 0 0 0 0, 0");
        Bench.becomes(Bench.whole("!AIVDMM,1,1,,A,1,0"), "0 0 0 1 0, 0");
    }

    private static void addressSigns() {
        Bench.says("five signs A .. Z, 0 .. 9, of which the last three are its FORM; STRANGE: another ADDRESS");
        String[] good = {"$GPGGA,,,,,,0,,,,,,,,", "$GPRMC,,V,,,,,,,,,", "$GPVTG,,,,,,,,", "!AIVDM,1,1,,A,1,0", "!AIVDO,1,1,,A,1,0"};
        for (String s : good) {
            for (int place = 1; place <= 5; place++) {
                for (char c : Bench.FIELD_SIGNS.toCharArray()) {
                    boolean talks = place < 3 && (c >= 'A' && c <= 'Z' || c >= '0' && c <= '9');
                    boolean forms = c == s.charAt(place) || s.startsWith("!") && place == 5 && (c == 'M' || c == 'O');
                    String other = s.substring(0, place) + c + s.substring(place + 1);
                    Bench.becomes(Bench.whole(other), talks || forms ? "1 0 0 0 0, 0" : "0 0 0 1 0, 0");
                }
            }
        }
    }

    private static void formsOfTheOther() {
        Bench.says("of $ GGA, RMC, VTG; of ! VDM, VDO");
        String[] good = {"GPGGA,,,,,,0,,,,,,,,", "GPRMC,,V,,,,,,,,,", "GPVTG,,,,,,,,", "AIVDM,1,1,,A,1,0", "AIVDO,1,1,,A,1,0"};
        for (int i = 0; i < good.length; i++) {
            Bench.becomes(Bench.whole("$" + good[i]), i < 3 ? "1 0 0 0 0, 0" : "0 0 0 1 0, 0");
            Bench.becomes(Bench.whole("!" + good[i]), i < 3 ? "0 0 0 1 0, 0" : "1 0 0 0 0, 0");
        }
    }

    private static void fieldCounts() {
        Bench.says("FAULTY: not as many FIELDS as its FORM wants (GGA 15, RMC 12 or 13, VTG 9 or 10, VDM, VDO 7)");
        dueFields("$GPGGA,,,,,,0", 15, 15);
        dueFields("$GPRMC,,V", 12, 13);
        dueFields("$GPVTG", 9, 10);
        dueFields("!AIVDM,1,1,,A,1,0", 7, 7);
        dueFields("!AIVDO,1,1,,A,1,0", 7, 7);
        Bench.becomes(Bench.whole("!AIVDM,1,1,,A,1"), "0 0 0 0 1, 0");
        Bench.becomes(Bench.whole("$" + ",".repeat(78)), "0 0 0 1 0, 0");
        Bench.becomes(Bench.whole("$GPGGA" + ",".repeat(73)), "0 0 0 0 1, 0");
    }

    private static void dueFields(String ahead, int least, int most) {
        int fields = ahead.split(",", -1).length;
        for (String s = ahead; s.length() <= 79; s += ",") {
            boolean fits = fields >= least && fields <= most;
            Bench.becomes(Bench.whole(s), fits ? "1 0 0 0 0, 0" : "0 0 0 0 1, 0");
            fields++;
        }
    }
}
