import java.nio.charset.StandardCharsets;

/** What the tests share: answers that are due, sentences with their sums, packed bits. */
final class Bench {
    static final int NONE = SeaReceiver.NONE;
    /** Stand for what a call threw, outside what any call answers. */
    static final long NO_SUCH = 1L << 40;
    static final long ILLEGAL = 1L << 41;

    private static int wrong = 0;

    private Bench() {
    }

    interface Call {
        long answer();
    }

    static long of(Call call) {
        try {
            return call.answer();
        } catch (java.util.NoSuchElementException e) {
            return NO_SUCH;
        } catch (IllegalArgumentException e) {
            return ILLEGAL;
        }
    }

    static void due(String what, long want, long got) {
        if (got != want) {
            wrong++;
            System.out.println(what + ": answered " + got + ", due is " + want);
        }
    }

    static void due(String what, long want, Call call) {
        due(what, want, of(call));
    }

    static void due(String what, String want, String got) {
        if (!want.equals(got)) {
            wrong++;
            System.out.println(what + ": answered " + got + ", due is " + want);
        }
    }

    static void finish() {
        System.out.println(wrong == 0 ? "all answers are as due" : wrong + " answers are not as due");
        if (wrong != 0) {
            System.exit(1);
        }
    }

    /** $ or ! and a body, with its sum and its end. */
    static String whole(String startAndBody) {
        int sum = 0;
        for (int i = 1; i < startAndBody.length(); i++) {
            sum ^= startAndBody.charAt(i);
        }
        return startAndBody + String.format("*%02X\r\n", sum);
    }

    static int[] words(String twenty) {
        byte[] signs = java.util.Arrays.copyOf(twenty.getBytes(StandardCharsets.ISO_8859_1), 20);
        int[] words = new int[5];
        for (int i = 0; i < 20; i++) {
            words[i / 4] = words[i / 4] << 8 | signs[i] & 255;
        }
        return words;
    }

    /** Puts a text of at most 2000 signs on an empty tape. */
    static void put(SeaReceiver r, String text) {
        for (int i = 0; i < text.length(); i += 20) {
            int[] w = words(text.substring(i, Math.min(i + 20, text.length())));
            r.feed(w[0], w[1], w[2], w[3], w[4]);
        }
        r.end(text.length());
    }

    static int hear(SeaReceiver r, String text) {
        put(r, text);
        return r.stream();
    }

    /** The n lowest bits of a value as noughts and ones. */
    static String bin(long value, int n) {
        StringBuilder b = new StringBuilder();
        for (int i = n - 1; i >= 0; i--) {
            b.append(value >> i & 1);
        }
        return b.toString();
    }

    static String sixes(String text, int signs) {
        StringBuilder b = new StringBuilder();
        for (int i = 0; i < signs; i++) {
            b.append(bin(i < text.length() ? text.charAt(i) & 63 : 0, 6));
        }
        return b.toString();
    }

    static String pack(String bits) {
        StringBuilder b = new StringBuilder();
        for (int i = 0; i < bits.length(); i += 6) {
            String six = (bits.substring(i, Math.min(i + 6, bits.length())) + "00000").substring(0, 6);
            int v = Integer.parseInt(six, 2);
            b.append((char) (v < 40 ? v + 48 : v + 56));
        }
        return b.toString();
    }

    static int fill(String bits) {
        return (6 - bits.length() % 6) % 6;
    }

    /** A message in one sentence. */
    static String one(String bits) {
        return whole("!AIVDM,1,1,,A," + pack(bits) + "," + fill(bits));
    }

    static String part(int many, int part, String id, String bits) {
        return whole("!AIVDM," + many + "," + part + "," + id + ",A," + pack(bits) + "," + fill(bits));
    }

    static String head(int type, long mmsi) {
        return bin(type, 6) + "00" + bin(mmsi, 30);
    }

    static String outText(SeaReceiver r) {
        StringBuilder b = new StringBuilder();
        for (int i = 0; i < r.count(11); i++) {
            b.append((char) r.out(i));
        }
        return b.toString();
    }

    static String text(SeaReceiver r, int v, int what) {
        StringBuilder b = new StringBuilder();
        for (int i = 0; i < r.vessel(v, 30 + what); i++) {
            b.append((char) r.letter(v, what, i));
        }
        return b.toString();
    }
}
