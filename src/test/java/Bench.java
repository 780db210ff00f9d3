import java.nio.charset.StandardCharsets;

/** What the tests share: answers that are due, sentences with their sums, packed bits. */
final class Bench {
    static final int NONE = SeaReceiver.NONE;
    /** Stand for what a call threw, outside what any call answers. */
    static final long NO_SUCH = 1L << 40;
    static final long ILLEGAL = 1L << 41;
    /** Stands for the value of a sentence that was not taken. */
    static final long FAULTY = 1L << 42;

    /** Signs that may stand in a field, one at a time. */
    static final String FIELD_SIGNS = fieldSigns();

    private static int wrong = 0;
    private static String says = "";

    private Bench() {
    }

    interface Call {
        long answer();
    }

    static long of(Call call) {
        try {
            return call.answer();
        } catch (java.util.NoSuchElementException e) {
            return NO_SUCH;
        } catch (IllegalArgumentException e) {
            return ILLEGAL;
        }
    }

    /** The words of the document that the tests behind it are about. */
    static void says(String words) {
        says = "[" + words + "] ";
    }

    static void due(String what, long want, long got) {
        if (got != want) {
            wrong++;
            System.out.println(says + what + ": answered " + got + ", due is " + want);
        }
    }

    static void due(String what, long want, Call call) {
        due(what, want, of(call));
    }

    static void due(String what, String want, String got) {
        if (!want.equals(got)) {
            wrong++;
            System.out.println(says + what + ": answered " + got + ", due is " + want);
        }
    }

    static void finish() {
        System.out.println(wrong == 0 ? "all answers are as due" : wrong + " answers are not as due");
        if (wrong != 0) {
            System.exit(1);
        }
    }

    /** $ or ! and a body, with its sum and its end. */
    static String whole(String startAndBody) {
        int sum = 0;
        for (int i = 1; i < startAndBody.length(); i++) {
            sum ^= startAndBody.charAt(i);
        }
        return startAndBody + String.format("*%02X\r\n", sum);
    }

    static int[] words(String twenty) {
        byte[] signs = java.util.Arrays.copyOf(twenty.getBytes(StandardCharsets.ISO_8859_1), 20);
        int[] words = new int[5];
        for (int i = 0; i < 20; i++) {
            words[i / 4] = words[i / 4] << 8 | signs[i] & 255;
        }
        return words;
    }

    /** Puts a text of at most 2000 signs on an empty tape. */
    static void put(SeaReceiver r, String text) {
        for (int i = 0; i < text.length(); i += 20) {
            int[] w = words(text.substring(i, Math.min(i + 20, text.length())));
            r.feed(w[0], w[1], w[2], w[3], w[4]);
        }
        r.end(text.length());
    }

    static int hear(SeaReceiver r, String text) {
        put(r, text);
        return r.stream();
    }

    static SeaReceiver heard(String text) {
        SeaReceiver r = new SeaReceiver();
        hear(r, text);
        return r;
    }

    private static String fieldSigns() {
        StringBuilder b = new StringBuilder();
        for (char c = 32; c < 127; c++) {
            if ("$!*,".indexOf(c) < 0) {
                b.append(c);
            }
        }
        return b.toString();
    }

    /** What count says of sentences: taken, broken, wrong, strange, faulty; and of the one under way. */
    static String tallies(SeaReceiver r) {
        return r.count(0) + " " + r.count(1) + " " + r.count(2) + " " + r.count(3) + " " + r.count(4) + ", " + r.count(12);
    }

    /** What became of a text that a new object heard: as tallies says it. */
    static void becomes(String text, String want) {
        due(text.replace("\r", "\\r").replace("\n", "\\n"), want, tallies(heard(text)));
    }

    /** A sentence, some of whose fields, from f on, are others. */
    static String with(String startAndBody, int f, String contents) {
        String[] fields = startAndBody.split(",", -1);
        String[] others = contents.split(",", -1);
        System.arraycopy(others, 0, fields, f, others.length);
        return String.join(",", fields);
    }

    /** A value of the fix as a sentence tells it to a new object; FAULTY if that is what it is. */
    static long told(String startAndBody, int what) {
        SeaReceiver r = heard(whole(startAndBody));
        String outcome = tallies(r);
        if (outcome.equals("0 0 0 0 1, 0") && r.fix(what) == NONE) {
            return FAULTY;
        }
        due(startAndBody, "1 0 0 0 0, 0", outcome);
        return r.fix(what);
    }

    /** The n lowest bits of a value as noughts and ones. */
    static String bin(long value, int n) {
        StringBuilder b = new StringBuilder();
        for (int i = n - 1; i >= 0; i--) {
            b.append(value >> i & 1);
        }
        return b.toString();
    }

    static String sixes(String text, int signs) {
        StringBuilder b = new StringBuilder();
        for (int i = 0; i < signs; i++) {
            b.append(bin(i < text.length() ? text.charAt(i) & 63 : 0, 6));
        }
        return b.toString();
    }

    static String pack(String bits) {
        StringBuilder b = new StringBuilder();
        for (int i = 0; i < bits.length(); i += 6) {
            String six = (bits.substring(i, Math.min(i + 6, bits.length())) + "00000").substring(0, 6);
            int v = Integer.parseInt(six, 2);
            b.append((char) (v < 40 ? v + 48 : v + 56));
        }
        return b.toString();
    }

    static int fill(String bits) {
        return (6 - bits.length() % 6) % 6;
    }

    /** A message in one sentence. */
    static String one(String bits) {
        return whole("!AIVDM,1,1,,A," + pack(bits) + "," + fill(bits));
    }

    static String part(int many, int part, String id, String bits) {
        return whole("!AIVDM," + many + "," + part + "," + id + ",A," + pack(bits) + "," + fill(bits));
    }

    static String head(int type, long mmsi) {
        return bin(type, 6) + "00" + bin(mmsi, 30);
    }

    static String outText(SeaReceiver r) {
        StringBuilder b = new StringBuilder();
        int signs = r.count(11);
        for (int i = 0; i < signs; i++) {
            b.append((char) r.out(i));
        }
        return b.toString();
    }

    static String text(SeaReceiver r, int v, int what) {
        StringBuilder b = new StringBuilder();
        int signs = r.vessel(v, 30 + what);
        for (int i = 0; i < signs; i++) {
            b.append((char) r.letter(v, what, i));
        }
        return b.toString();
    }
}
