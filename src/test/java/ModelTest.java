import java.util.Random;

/** All promises: long runs of calls, drawn from a fixed seed, answered by the class and by the model. */
public final class ModelTest {
    private static final int RUNS = 1000;
    /** What later calls on an object answer is free. */
    private static final int MOST_CALLS = 512;
    /** The last ones of a run look at what it came to. */
    private static final int LAST_LOOKS = 140;
    private static final String SIGNS = "0123456789.,-$!*\r\nAVNSEWMTKDGPRC wx~\t\u0000\u00ff";

    private final Random random;
    private SeaReceiver r;
    private Model m;
    private int calls;
    private String run;
    private final int[] seen = new int[9];

    private ModelTest(long seed) {
        random = new Random(seed);
    }

    public static void main(String[] args) {
        int[] seen = new int[9];
        for (int i = 0; i < RUNS; i++) {
            ModelTest t = new ModelTest(i);
            t.oneRun(i);
            for (int k = 0; k < seen.length; k++) {
                seen[k] += t.seen[k];
            }
        }
        // The runs are worth something only if everything that is counted happens in them often.
        for (int k = 0; k < seen.length; k++) {
            Bench.due("count " + k + " is seen often", 1, seen[k] >= 100 ? 1 : 0);
        }
        Bench.finish();
    }

    private void oneRun(int number) {
        r = new SeaReceiver();
        m = new Model();
        run = "run " + number + ": ";
        int style = random.nextInt(4);
        while (calls < MOST_CALLS - LAST_LOOKS) {
            int kind = random.nextInt(100);
            // Runs of style 3 are to fill the table of vessels: little else is done in them.
            if (kind < (style == 3 ? 90 : 55)) {
                hearSome(style);
            } else if (kind < 98) {
                oneCall();
            } else if (style != 3 && random.nextInt(3) == 0) {
                count();
                same("clear", () -> cleared(m), () -> cleared(r));
            }
        }
        count();
        lookAround();
    }

    private static int cleared(Model m) {
        m.clear();
        return 0;
    }

    private static int cleared(SeaReceiver r) {
        r.clear();
        return 0;
    }

    private void count() {
        for (int k = 0; k < seen.length; k++) {
            seen[k] += m.count(k);
        }
    }

    /** One call on both, or none if the object has had as many as are promised. */
    private void same(String what, Bench.Call want, Bench.Call got) {
        if (calls < MOST_CALLS) {
            calls++;
            Bench.due(run + calls + " " + what, Bench.of(want), Bench.of(got));
        }
    }

    private void lookAround() {
        for (int what = 0; what <= 13; what++) {
            int w = what;
            same("count " + w, () -> m.count(w), () -> r.count(w));
        }
        for (int what = 0; what <= 17; what++) {
            int w = what;
            same("fix " + w, () -> m.fix(w), () -> r.fix(w));
        }
        while (calls < MOST_CALLS) {
            int v = any(-1, m.count(9));
            int w = any(-1, 33);
            int i = any(-1, 116);
            same("vessel " + v + " " + w, () -> m.vessel(v, w), () -> r.vessel(v, w));
            same("letter " + v + " " + w % 3 + " " + i % 20, () -> m.letter(v, w % 3, i % 20), () -> r.letter(v, w % 3, i % 20));
            same("out " + i, () -> m.out(i), () -> r.out(i));
        }
    }

    private void hearSome(int style) {
        StringBuilder text = new StringBuilder();
        for (int n = random.nextInt(4); n >= 0; n--) {
            text.append(someSentences(style));
        }
        if (random.nextInt(10) == 0) {
            text.setLength(random.nextInt(text.length() + 1));
        }
        int whole = text.length() / 20 * 20;
        for (int i = 0; i < whole; i += 20) {
            int[] w = Bench.words(text.substring(i, i + 20));
            same("feed", () -> m.feed(w[0], w[1], w[2], w[3], w[4]), () -> r.feed(w[0], w[1], w[2], w[3], w[4]));
        }
        int left = text.length() - whole;
        if (left > 0 && m.count(10) + 20 <= 2000) {
            int[] w = Bench.words(text.substring(whole));
            same("feed", () -> m.feed(w[0], w[1], w[2], w[3], w[4]), () -> r.feed(w[0], w[1], w[2], w[3], w[4]));
            int n = m.count(10) - 20 + left;
            same("end " + n, () -> m.end(n) ? 1 : 0, () -> r.end(n) ? 1 : 0);
        }
        if (random.nextInt(8) > 0) {
            same("stream", () -> m.stream(), () -> r.stream());
        }
    }

    private int any(int least, int most) {
        int[] far = {Integer.MIN_VALUE, Integer.MAX_VALUE, -1, Integer.MIN_VALUE + 1, Integer.MAX_VALUE - 1};
        return random.nextInt(30) == 0 ? far[random.nextInt(far.length)] : least + random.nextInt(most - least + 1);
    }

    private void oneCall() {
        int a = any(-1, 14);
        int v = any(-1, m.count(9));
        switch (random.nextInt(12)) {
            case 0: same("count " + a, () -> m.count(a), () -> r.count(a)); break;
            case 1: int f = any(-1, 18); same("fix " + f, () -> m.fix(f), () -> r.fix(f)); break;
            case 2: int s = any(0, 50); same("find " + s, () -> m.find(s), () -> r.find(s)); break;
            case 3: int w = any(-1, 33); same("vessel " + v + " " + w, () -> m.vessel(v, w), () -> r.vessel(v, w)); break;
            case 4:
            case 5:
                int t = any(-1, 3);
                int i = any(-1, 20);
                same("letter " + v + " " + t + " " + i, () -> m.letter(v, t, i), () -> r.letter(v, t, i));
                break;
            case 6:
            case 7:
                int at = any(-1, random.nextBoolean() ? 10 : 424);
                int n = any(0, 33);
                same("bits " + at + " " + n, () -> m.bits(at, n), () -> r.bits(at, n));
                break;
            case 8:
                int type = new int[] {1, 5, 18, 1, 5, 18, 5, any(0, 20)}[random.nextInt(8)];
                int id = any(-1, 10);
                same("send " + v + " " + type + " " + id, () -> m.send(v, type, id), () -> r.send(v, type, id));
                break;
            case 9: int o = any(-1, 115); same("out " + o, () -> m.out(o), () -> r.out(o)); break;
            case 10: same("again", () -> m.again(), () -> r.again()); break;
            default:
                int e = random.nextInt(10) == 0 ? any(-1, 2001) : m.count(10);
                same("end " + e, () -> m.end(e) ? 1 : 0, () -> r.end(e) ? 1 : 0);
        }
    }

    // ---- sentences, most of them good

    private String someSentences(int style) {
        int kind = style == 3 ? 90 : random.nextInt(100);
        String s;
        if (kind < 20) {
            s = gga();
        } else if (kind < 40) {
            s = rmc();
        } else if (kind < 55) {
            s = vtg();
        } else if (kind < 75) {
            s = "!AIVD" + pick("M", "M", "O") + "," + any("1", "2", "2", "3", "9") + "," + any("1", "2", "3") + ","
                + pick("", "0", "5", "9") + "," + any("A", "B", "", "1", "2") + "," + Bench.pack(bits(1 + random.nextInt(40)))
                + "," + random.nextInt(6);
        } else {
            return message(style == 3 && random.nextInt(10) > 0);
        }
        if (random.nextInt(12) == 0) {
            s = spoil(s);
        }
        String whole = Bench.whole(s);
        return random.nextInt(15) == 0 ? spoil(whole) : whole;
    }

    private String message(boolean isShort) {
        int type = new int[] {1, 2, 3, 4, 18, 18, 5, 5, random.nextInt(64)}[random.nextInt(isShort ? 6 : 9)];
        int length = type == 5 ? 424 : 168;
        if (random.nextInt(20) == 0) {
            length += random.nextInt(13) - 6;
        }
        String bits = Bench.head(type, random.nextInt(50)) + random.nextInt(2) + bits(430);
        if (type == 5) {
            bits = bits.substring(0, 70) + text(7) + text(20) + bits.substring(232, 302) + text(20) + bits(20);
        }
        bits = bits.substring(0, length);
        String id = pick("", "0", "5", "9");
        if (length <= 360 && random.nextInt(6) > 0) {
            return Bench.part(1, 1, id, bits);
        }
        int cut = length > 360 ? 300 + random.nextInt(61) : 1 + random.nextInt(length - 1);
        String first = Bench.part(2, 1, id, bits.substring(0, cut));
        String second = Bench.part(2, 2, id, bits.substring(cut));
        return random.nextInt(15) == 0 ? pick(first, second, second + first) : first + second;
    }

    private String text(int signs) {
        StringBuilder b = new StringBuilder();
        for (int i = 0; i < signs; i++) {
            b.append((char) (random.nextInt(4) == 0 ? 32 : random.nextInt(25) == 0 ? 64 : 32 + random.nextInt(64)));
        }
        return Bench.sixes(b.toString(), signs);
    }

    private String bits(int n) {
        StringBuilder b = new StringBuilder();
        for (int i = 0; i < n; i++) {
            b.append(random.nextInt(2));
        }
        return b.toString();
    }

    private String spoil(String s) {
        int at = random.nextInt(s.length());
        char c = SIGNS.charAt(random.nextInt(SIGNS.length()));
        switch (random.nextInt(3)) {
            case 0: return s.substring(0, at) + c + s.substring(at);
            case 1: return s.substring(0, at) + c + s.substring(at + 1);
            default: return s.substring(0, at) + s.substring(at + 1);
        }
    }

    private String pick(String... of) {
        return of[random.nextInt(of.length)];
    }

    private String any(String... of) {
        return random.nextInt(60) == 0 ? "" + SIGNS.charAt(random.nextInt(16)) : pick(of);
    }

    private String digits(int n) {
        StringBuilder b = new StringBuilder();
        for (int i = 0; i < n; i++) {
            b.append(random.nextInt(10));
        }
        return b.toString();
    }

    private String decimal(int w) {
        String whole = digits(1 + random.nextInt(random.nextInt(25) == 0 ? w + 1 : w));
        return random.nextInt(3) == 0 ? whole : whole + "." + digits(random.nextInt(60) == 0 ? random.nextInt(9) : 1 + random.nextInt(3));
    }

    private String below(int most, int width) {
        int v = random.nextInt(20) == 0 ? most - random.nextInt(2) : random.nextInt(most);
        return String.format("%0" + width + "d", v);
    }

    private String time() {
        return random.nextInt(4) == 0 ? "" : (random.nextInt(30) == 0 ? digits(2) : below(24, 2)) + below(60, 2) + below(60, 2)
            + pick("", "", "." + digits(1), "." + digits(2), "." + digits(3), random.nextInt(9) == 0 ? "." + digits(4) : "");
    }

    private String angle(int most, int width, String sides) {
        if (random.nextInt(4) == 0) {
            return random.nextInt(20) == 0 ? pick(",N", ",E", "0000,", "00000,") : ",";
        }
        String degrees = below(most + 1, width);
        boolean edge = Integer.parseInt(degrees) == most && random.nextInt(4) > 0;
        return degrees + (edge ? "00" : below(60, 2)) + pick("", ".0000" + digits(1 + random.nextInt(2)), "." + digits(1),
            "." + digits(4), "." + digits(6), ".0001") + "," + sides.charAt(random.nextInt(sides.length()));
    }

    private String valueAndUnit(String value, String unit) {
        return random.nextInt(40) == 0 ? value + "," + pick("", "T", "M", "N", "K") : pick(value + "," + unit, "," + unit, ",");
    }

    private String course() {
        return pick("", below(360, 3), below(360, 1) + "." + digits(2), random.nextInt(10) == 0 ? "360.0" : "0");
    }

    private String mode() {
        return pick("", "", ",A", ",D", ",N", ",S", ",", random.nextInt(9) == 0 ? ",X" : ",E");
    }

    private String gga() {
        String height = random.nextInt(3) == 0 ? "-" : "";
        return "$" + pick("GP", "GN", "0Z") + "GGA," + time() + "," + angle(90, 2, "NS") + "," + angle(180, 3, "EW") + ","
            + random.nextInt(random.nextInt(20) == 0 ? 10 : 9) + "," + pick("", digits(1), digits(2)) + ","
            + pick("", random.nextBoolean() ? decimal(2) : "1.0") + "," + valueAndUnit(height + decimal(5), "M") + ","
            + valueAndUnit(height + decimal(4), "M") + "," + pick("", "", decimal(4)) + "," + pick("", digits(4));
    }

    private String rmc() {
        String variation = pick("", below(181, 3), below(181, 1) + "." + digits(1), "180.0" + digits(1));
        return "$GPRMC," + time() + "," + any("A", "V") + "," + angle(90, 2, "NS") + "," + angle(180, 3, "EW") + ","
            + pick("", decimal(4)) + "," + course() + "," + pick("", below(32, 2) + below(13, 2) + digits(2)) + ","
            + variation + "," + (variation.isEmpty() == (random.nextInt(30) > 0) ? "" : pick("E", "W")) + mode();
    }

    private String vtg() {
        return "$GPVTG," + valueAndUnit(course(), "T") + "," + valueAndUnit(course(), "M") + "," + valueAndUnit(decimal(4), "N")
            + "," + valueAndUnit(decimal(4), "K") + mode();
    }
}
