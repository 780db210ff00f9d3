import java.util.ArrayList;
import java.util.Arrays;
import java.util.LinkedHashMap;
import java.util.List;
import java.util.Map;
import java.util.NoSuchElementException;
import java.util.TreeMap;
import java.util.regex.Matcher;
import java.util.regex.Pattern;

/** The document once more, in texts and patterns: slow, and written apart from the class, so that both can be compared. */
final class Model {
    static final int NONE = Integer.MIN_VALUE;

    private static final Pattern SENTENCE = Pattern.compile("[$!][ -~&&[^$!*]]{1,78}\\*[0-9A-F]{2}\r\n");
    private static final String[] FIX = {"time", "lat", "lon", "quality", "sats", "sharp", "height", "geoid", "age", "station",
        "valid", "speed", "course", "date", "variation", "magnetic", "kmh", "mode"};
    private static final String[] VESSEL = {"mmsi", "last", "status", "turn", "speed", "sharp", "lon", "lat", "course",
        "heading", "second", "year", "month", "day", "hour", "minute", "imo", "kind", "bow", "stern", "port", "starboard",
        "draught", "messages"};
    private static final String[] TEXT = {"call", "name", "goal"};

    private static final String DECIMAL = "\\d{1,W}(\\.\\d{1,6})?";
    private static final String TIME = "(([01]\\d|2[0-3])[0-5]\\d[0-5]\\d(\\.\\d{1,3})?)?";
    private static final String COURSE = "(([0-2]?\\d{1,2}|3[0-5]\\d)(\\.\\d{1,6})?)?";
    private static final String LAT = "((([0-8]\\d[0-5]\\d(\\.\\d{1,6})?)|9000(\\.0{1,6}|\\.0000\\d{1,2})?),[NS]|,)";
    private static final String LON = "(((0\\d\\d|1[0-7]\\d)[0-5]\\d(\\.\\d{1,6})?|18000(\\.0{1,6}|\\.0000\\d{1,2})?),[EW]|,)";
    private static final String MODE = "[ADEMNS]?";
    private static final Pattern GGA = Pattern.compile("[A-Z0-9]{2}GGA," + TIME + "," + LAT + "," + LON + ",[0-8],\\d{0,2},("
        + w(2) + ")?,(-?" + w(5) + ",M|,M?),(-?" + w(4) + ",M|,M?),(" + w(4) + ")?,(\\d{4})?");
    private static final Pattern RMC = Pattern.compile("[A-Z0-9]{2}RMC," + TIME + ",[AV]," + LAT + "," + LON + ",(" + w(4)
        + ")?," + COURSE + ",((0[1-9]|[12]\\d|3[01])(0[1-9]|1[0-2])\\d\\d)?,"
        + "(((0?\\d{1,2}|1[0-7]\\d)(\\.\\d{1,6})?|180(\\.0\\d{0,5})?),[EW]|,)(," + MODE + ")?");
    private static final Pattern VTG = Pattern.compile("[A-Z0-9]{2}VTG,(?!,[^T,])" + COURSE + ",(T|(?<=,,)),"
        + COURSE + ",(M|(?<=,,)),(" + w(4) + ",N|,N?),(" + w(4) + ",K|,K?)(," + MODE + ")?");
    private static final Pattern VDM = Pattern.compile(
        "[A-Z0-9]{2}VD[MO],([1-9]),([1-9]),(\\d?),[AB12]?,([0-W`-w]{1,60}),([0-5])");

    private static String w(int w) {
        return DECIMAL.replace("W", "" + w);
    }

    private String tape = "";
    private String out = "";
    private String pending;
    private int[] counts;
    private Map<String, Integer> fix;
    private Map<String, List<String>> parts;
    private Map<String, String> manys;
    private String message;
    private Map<Integer, Map<String, Integer>> vessels;
    private Map<Integer, Map<String, String>> texts;

    Model() {
        clear();
    }

    void clear() {
        pending = "";
        counts = new int[9];
        fix = new TreeMap<>();
        parts = new TreeMap<>();
        manys = new TreeMap<>();
        message = "";
        vessels = new LinkedHashMap<>();
        texts = new LinkedHashMap<>();
    }

    int feed(int a, int b, int c, int d, int e) {
        if (tape.length() + 20 > 2000) {
            return NONE;
        }
        for (int x : new int[] {a, b, c, d, e}) {
            for (int shift = 24; shift >= 0; shift -= 8) {
                tape += (char) (x >>> shift & 255);
            }
        }
        return tape.length();
    }

    boolean end(int n) {
        if (n < 0 || n > tape.length()) {
            return false;
        }
        tape = tape.substring(0, n);
        return true;
    }

    int stream() {
        int before = counts[0];
        for (char c : tape.toCharArray()) {
            if (c == '$' || c == '!') {
                counts[1] += pending.isEmpty() ? 0 : 1;
                pending = "" + c;
            } else if (!pending.isEmpty()) {
                pending += c;
                Matcher m = SENTENCE.matcher(pending);
                if (m.matches()) {
                    counts[judge(pending)]++;
                    pending = "";
                } else if (!m.hitEnd()) {
                    counts[1]++;
                    pending = "";
                }
            }
        }
        tape = "";
        return counts[0] - before;
    }

    private int judge(String s) {
        int star = s.indexOf('*');
        String body = s.substring(1, star);
        int sum = body.chars().reduce(0, (x, y) -> x ^ y);
        if (sum != Integer.parseInt(s.substring(star + 1, star + 3), 16)) {
            return 2;
        }
        String[] f = body.split(",", -1);
        String start = s.charAt(0) == '$' ? "\\$" : "!";
        if (!(start + f[0]).matches("\\\\\\$[A-Z0-9]{2}(GGA|RMC|VTG)|![A-Z0-9]{2}VD[MO]")) {
            return 3;
        }
        String form = f[0].substring(2);
        boolean good = form.equals("GGA") ? gga(body, f) : form.equals("RMC") ? rmc(body, f)
            : form.equals("VTG") ? vtg(body, f) : vdm(body);
        return good ? 0 : 4;
    }

    private static int dec(String s, int d) {
        if (s.isEmpty()) {
            return NONE;
        }
        return new java.math.BigDecimal(s).movePointRight(d).setScale(0, java.math.RoundingMode.DOWN).intValue();
    }

    private static int time(String s) {
        if (s.isEmpty()) {
            return NONE;
        }
        int of = Integer.parseInt(s.substring(0, 2)) * 3600 + Integer.parseInt(s.substring(2, 4)) * 60;
        return of * 1000 + dec(s.substring(4), 3);
    }

    private static int angle(String s, String side, int width) {
        if (s.isEmpty()) {
            return NONE;
        }
        int v = Integer.parseInt(s.substring(0, width)) * 600000 + dec(s.substring(width), 4);
        return side.equals("S") || side.equals("W") ? -v : v;
    }

    private boolean gga(String body, String[] f) {
        if (!GGA.matcher(body).matches()) {
            return false;
        }
        fix.put("time", time(f[1]));
        fix.put("lat", angle(f[2], f[3], 2));
        fix.put("lon", angle(f[4], f[5], 3));
        fix.put("quality", dec(f[6], 0));
        fix.put("sats", dec(f[7], 0));
        fix.put("sharp", dec(f[8], 2));
        fix.put("height", dec(f[9], 1));
        fix.put("geoid", dec(f[11], 1));
        fix.put("age", dec(f[13], 1));
        fix.put("station", dec(f[14], 0));
        return true;
    }

    private boolean rmc(String body, String[] f) {
        if (!RMC.matcher(body).matches()) {
            return false;
        }
        fix.put("time", time(f[1]));
        fix.put("valid", f[2].equals("A") ? 1 : 0);
        fix.put("lat", angle(f[3], f[4], 2));
        fix.put("lon", angle(f[5], f[6], 3));
        fix.put("speed", dec(f[7], 2));
        fix.put("course", dec(f[8], 2));
        fix.put("date", f[9].isEmpty() ? NONE
            : Integer.parseInt(f[9].substring(4) + f[9].substring(2, 4) + f[9].substring(0, 2)));
        fix.put("variation", dec(f[11].equals("W") ? "-" + f[10] : f[10], 1));
        fix.put("mode", f.length > 12 && !f[12].isEmpty() ? f[12].charAt(0) : NONE);
        return true;
    }

    private boolean vtg(String body, String[] f) {
        if (!VTG.matcher(body).matches()) {
            return false;
        }
        fix.put("course", dec(f[1], 2));
        fix.put("magnetic", dec(f[3], 2));
        fix.put("speed", dec(f[5], 2));
        fix.put("kmh", dec(f[7], 2));
        fix.put("mode", f.length > 9 && !f[9].isEmpty() ? f[9].charAt(0) : NONE);
        return true;
    }

    private boolean vdm(String body) {
        Matcher m = VDM.matcher(body);
        if (!m.matches() || m.group(2).compareTo(m.group(1)) > 0) {
            return false;
        }
        int part = Integer.parseInt(m.group(2));
        String id = m.group(3);
        List<String> kept = parts.computeIfAbsent(id, k -> new ArrayList<>());
        StringBuilder bits = new StringBuilder();
        for (char c : m.group(4).toCharArray()) {
            int v = c - 48 > 40 ? c - 56 : c - 48;
            bits.append(Integer.toBinaryString(64 | v).substring(1));
        }
        bits.setLength(bits.length() - Integer.parseInt(m.group(5)));
        if (part == 1) {
            counts[7] += kept.isEmpty() ? 0 : 1;
            kept.clear();
        } else if (kept.size() != part - 1 || !m.group(1).equals(manys.get(id))) {
            counts[7]++;
            kept.clear();
            return true;
        }
        manys.put(id, m.group(1));
        kept.add(bits.toString());
        if (m.group(1).equals(m.group(2))) {
            message = String.join("", kept);
            kept.clear();
            receive();
        }
        return true;
    }

    /** Names with their widths; a width with s has a sign, one with t counts signs. */
    private static String layout(int type) {
        switch (type) {
            case 1: case 2: case 3:
                return "status 4,turn 8s,speed 10,sharp 1,lon 28s,lat 27s,course 12,heading 9,second 6,- 25";
            case 4:
                return "year 14,month 4,day 5,hour 5,minute 6,second 6,sharp 1,lon 28s,lat 27s,- 4,- 30";
            case 5:
                return "- 2,imo 30,call 7t,name 20t,kind 8,bow 9,stern 9,port 6,starboard 6,- 4,month 4,day 5,hour 5,minute 6,"
                    + "draught 8,goal 20t,- 2";
            case 18:
                return "- 8,speed 10,sharp 1,lon 28s,lat 27s,course 12,heading 9,second 6,- 29";
            default:
                return null;
        }
    }

    private void receive() {
        int type = message.length() < 38 ? -1 : Integer.parseInt(message.substring(0, 6), 2);
        String layout = layout(type);
        if (layout == null || message.length() != (type == 5 ? 424 : 168)) {
            counts[6]++;
            return;
        }
        counts[5]++;
        int mmsi = Integer.parseInt(message.substring(8, 38), 2);
        if (!vessels.containsKey(mmsi)) {
            if (vessels.size() == 40) {
                counts[8]++;
                return;
            }
            vessels.put(mmsi, new TreeMap<>());
            texts.put(mmsi, new TreeMap<>());
            vessels.get(mmsi).put("mmsi", mmsi);
            vessels.get(mmsi).put("messages", 0);
        }
        Map<String, Integer> vessel = vessels.get(mmsi);
        vessel.put("last", type);
        vessel.put("messages", vessel.get("messages") + 1);
        String rest = message.substring(38);
        for (String field : layout.split(",")) {
            String name = field.split(" ")[0];
            String width = field.split(" ")[1];
            int n = Integer.parseInt(width.replaceAll("[st]", "")) * (width.endsWith("t") ? 6 : 1);
            String bits = rest.substring(0, n);
            rest = rest.substring(n);
            if (width.endsWith("t")) {
                texts.get(mmsi).put(name, unpackText(bits));
            } else if (!name.equals("-")) {
                int value = Integer.parseInt(bits, 2);
                vessel.put(name, width.endsWith("s") && bits.startsWith("1") ? value - (1 << n) : value);
            }
        }
    }

    private static String unpackText(String bits) {
        StringBuilder b = new StringBuilder();
        for (int i = 0; i < bits.length(); i += 6) {
            int v = Integer.parseInt(bits.substring(i, i + 6), 2);
            b.append((char) (v < 32 ? v + 64 : v));
        }
        String text = b.toString();
        return (text + "@").substring(0, (text + "@").indexOf('@')).replaceAll(" +$", "");
    }

    int count(int what) {
        if (what < 0 || what > 13) {
            return NONE;
        }
        if (what < 9) {
            return counts[what];
        }
        int kept = parts.values().stream().mapToInt(List::size).sum();
        return new int[] {vessels.size(), tape.length(), out.length(), pending.split("\\*", 2)[0].length(), kept}[what - 9];
    }

    int fix(int what) {
        if (what < 0 || what > 17) {
            throw new NoSuchElementException();
        }
        return fix.getOrDefault(FIX[what], NONE);
    }

    int find(int mmsi) {
        int i = new ArrayList<>(vessels.keySet()).indexOf(mmsi);
        return i < 0 ? NONE : i;
    }

    private int mmsi(int v) {
        if (v < 0 || v >= vessels.size()) {
            throw new NoSuchElementException();
        }
        return new ArrayList<>(vessels.keySet()).get(v);
    }

    int vessel(int v, int what) {
        int mmsi = mmsi(v);
        if (what >= 30 && what <= 32) {
            return texts.get(mmsi).getOrDefault(TEXT[what - 30], "").length();
        }
        if (what < 0 || what > 23) {
            throw new NoSuchElementException();
        }
        return vessels.get(mmsi).getOrDefault(VESSEL[what], NONE);
    }

    int letter(int v, int what, int i) {
        if (v < 0 || v >= vessels.size() || what < 0 || what > 2) {
            return NONE;
        }
        String text = texts.get(mmsi(v)).getOrDefault(TEXT[what], "");
        return i < 0 || i >= text.length() ? NONE : text.charAt(i);
    }

    int bits(int at, int n) {
        if (n < 1 || n > 32 || at < 0 || (long) at + n > message.length()) {
            throw new NoSuchElementException();
        }
        return (int) Long.parseLong(message.substring(at, at + n), 2);
    }

    int send(int v, int type, int id) {
        int mmsi = mmsi(v);
        if (!Arrays.asList(1, 5, 18).contains(type) || type == 5 && (id < 0 || id > 9)) {
            throw new IllegalArgumentException();
        }
        StringBuilder bits = new StringBuilder(Bench.head(type, mmsi));
        for (String field : layout(type).split(",")) {
            String name = field.split(" ")[0];
            String width = field.split(" ")[1];
            int n = Integer.parseInt(width.replaceAll("[st]", ""));
            if (width.endsWith("t")) {
                bits.append(Bench.sixes(texts.get(mmsi).getOrDefault(name, ""), n));
            } else {
                bits.append(Bench.bin(vessels.get(mmsi).getOrDefault(name, 0), n));
            }
        }
        String all = bits.toString();
        out = type == 5 ? Bench.part(2, 1, "" + id, all.substring(0, 360)) + Bench.part(2, 2, "" + id, all.substring(360))
            : Bench.one(all);
        return out.length();
    }

    int out(int i) {
        return i < 0 || i >= out.length() ? NONE : out.charAt(i);
    }

    int again() {
        if (tape.length() + out.length() > 2000) {
            return NONE;
        }
        tape += out;
        return tape.length();
    }
}
