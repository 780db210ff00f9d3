import java.util.Arrays;
import java.util.NoSuchElementException;

/** A receiver on a ship's bridge; README.md says how it is used. */
public final class SeaReceiver {
    public static final int NONE = -2147483648;

    private static final int TAPE_ROOM = 2000;
    // A report of type 5 is the longest one that is sent: 82 and 33 signs.
    private static final int OUT_ROOM = 115;
    // Nine parts of sixty signs of six bits.
    private static final int MESSAGE_ROOM = 3240;
    private static final int REPORT_ROOM = 424;

    // The numbers of what is counted, as the call count names them.
    private static final int TAKEN = 0;
    private static final int BROKEN = 1;
    private static final int WRONG = 2;
    private static final int STRANGE = 3;
    private static final int FAULTY = 4;
    private static final int KNOWN = 5;
    private static final int ODD = 6;
    private static final int LOST = 7;
    private static final int MISSED = 8;
    private static final int TALLIES = 9;

    private static final int VOYAGE = 5;
    private static final int FIRST_PART_SIGNS = 60;

    private final int[] tallies = new int[TALLIES];
    private final SignRow tape = new SignRow(TAPE_ROOM);
    private final SignRow sent = new SignRow(OUT_ROOM);
    private final Sentence sentence = new Sentence();
    private final Fields fields = new Fields();
    private final Position position = new Position();
    private final Parts parts = new Parts();
    private final BitRow message = new BitRow(MESSAGE_ROOM);
    private final Fleet fleet = new Fleet();
    private final BitRow report = new BitRow(REPORT_ROOM);

    public SeaReceiver() {
    }

    // ---- the stream

    public int feed(int a, int b, int c, int d, int e) {
        if (!tape.hasRoom(20)) {
            return NONE;
        }
        tape.addWord(a);
        tape.addWord(b);
        tape.addWord(c);
        tape.addWord(d);
        tape.addWord(e);
        return tape.size;
    }

    public boolean end(int n) {
        if (n < 0 || n > tape.size) {
            return false;
        }
        tape.size = n;
        return true;
    }

    public int stream() {
        int before = tallies[TAKEN];
        for (int i = 0; i < tape.size; i++) {
            int outcome = sentence.hear(tape.at(i));
            if (outcome == Sentence.BROKE) {
                tallies[BROKEN]++;
            } else if (outcome == Sentence.ENDED) {
                int verdict = judge();
                tallies[verdict]++;
            }
        }
        tape.size = 0;
        return tallies[TAKEN] - before;
    }

    public int count(int what) {
        if (what >= 0 && what < TALLIES) {
            return tallies[what];
        }
        switch (what) {
            case 9: return fleet.size;
            case 10: return tape.size;
            case 11: return sent.size;
            case 12: return sentence.underWay();
            case 13: return parts.keptInAll();
            default: return NONE;
        }
    }

    // ---- where the ship is

    public int fix(int what) throws NoSuchElementException {
        if (what < 0 || what >= Position.VALUES) {
            throw new NoSuchElementException("no such value of the fix");
        }
        return position.told[what];
    }

    // ---- vessels

    public int find(int mmsi) {
        return fleet.numberOf(mmsi);
    }

    public int vessel(int v, int what) throws NoSuchElementException {
        Vessel one = fleet.at(v);
        if (one == null) {
            throw new NoSuchElementException("no such vessel");
        }
        if (what >= 0 && what < Vessel.VALUES) {
            return one.values[what];
        }
        if (what < Vessel.CALL || what > Vessel.GOAL) {
            throw new NoSuchElementException("no such value of a vessel");
        }
        return one.lengths[what - Vessel.CALL];
    }

    public int letter(int v, int what, int i) {
        Vessel one = fleet.at(v);
        return one == null ? NONE : one.signOf(what, i);
    }

    public int bits(int at, int n) throws NoSuchElementException {
        if (n < 1 || n > 32 || at < 0 || at > message.length - n) {
            throw new NoSuchElementException("the latest message has no such bits");
        }
        return message.read(at, n);
    }

    // ---- sending

    public int send(int v, int type, int id) throws NoSuchElementException, IllegalArgumentException {
        Vessel one = fleet.at(v);
        if (one == null) {
            throw new NoSuchElementException("no such vessel");
        }
        if (type != 1 && type != VOYAGE && type != 18) {
            throw new IllegalArgumentException("no report of this type is sent");
        }
        if (type == VOYAGE && (id < 0 || id > 9)) {
            throw new IllegalArgumentException("the id is not a digit");
        }
        one.tell(type, report);
        sent.size = 0;
        int signs = (report.length + 5) / 6;
        if (type == VOYAGE) {
            writeSentence("2,1,", id, 0, FIRST_PART_SIGNS);
            writeSentence("2,2,", id, FIRST_PART_SIGNS, signs);
        } else {
            writeSentence("1,1,", NONE, 0, signs);
        }
        return sent.size;
    }

    public int out(int i) {
        return sent.at(i);
    }

    public int again() {
        if (!tape.hasRoom(sent.size)) {
            return NONE;
        }
        for (int i = 0; i < sent.size; i++) {
            tape.add(sent.at(i));
        }
        return tape.size;
    }

    public void clear() {
        Arrays.fill(tallies, 0);
        sentence.forget();
        position.forget();
        parts.forget();
        message.empty();
        fleet.size = 0;
    }

    // ---- what a sentence does

    /** Says as what the sentence that has ended is counted, and does what it tells if it is taken. */
    private int judge() {
        if (sentence.sum != sentence.toldSum) {
            return WRONG;
        }
        fields.split(sentence);
        boolean good;
        switch (fields.form(sentence.start)) {
            case Fields.GGA: good = position.takeGga(fields); break;
            case Fields.RMC: good = position.takeRmc(fields); break;
            case Fields.VTG: good = position.takeVtg(fields); break;
            case Fields.VDM: good = takePart(); break;
            default: return STRANGE;
        }
        return good ? TAKEN : FAULTY;
    }

    private boolean takePart() {
        if (fields.many != 7) {
            return false;
        }
        int many = fields.digit(1, 1, 9);
        int part = fields.digit(2, 1, many);
        int id = fields.isEmpty(3) ? Parts.EMPTY_ID : fields.digit(3, 0, 9);
        fields.oneOf(4, "AB12");
        fields.checkPack(5);
        int fill = fields.digit(6, 0, 5);
        if (!fields.good) {
            return false;
        }
        if (isInOrder(id, many, part)) {
            BitRow row = parts.keep(id, many);
            fields.unpack(5, fill, row);
            if (part == many) {
                message.copy(row);
                parts.drop(id);
                receive();
            }
        }
        return true;
    }

    /** Says whether a part may be kept; what it puts an end to is dropped and lost. */
    private boolean isInOrder(int id, int many, int part) {
        if (part == 1) {
            if (parts.drop(id)) {
                tallies[LOST]++;
            }
            return true;
        }
        if (parts.awaits(id, many, part)) {
            return true;
        }
        parts.drop(id);
        tallies[LOST]++;
        return false;
    }

    /** The message that has just become whole goes to its vessel. */
    private void receive() {
        int type = message.length < Vessel.HEAD_BITS ? NONE : message.read(0, 6);
        if (type == NONE || Vessel.bitsOf(type) != message.length) {
            tallies[ODD]++;
            return;
        }
        tallies[KNOWN]++;
        Vessel one = fleet.vesselOf(message.read(8, 30));
        if (one == null) {
            tallies[MISSED]++;
            return;
        }
        one.learn(type, message);
    }

    // ---- how a report is written

    private void writeSentence(String manyAndPart, int id, int from, int to) {
        int start = sent.size;
        sent.addText("!AIVDM,");
        sent.addText(manyAndPart);
        if (id != NONE) {
            sent.add('0' + id);
        }
        sent.addText(",A,");
        for (int i = from; i < to; i++) {
            // Behind its end the report reads as noughts, which fill the last sign up.
            int six = report.read(6 * i, 6);
            sent.add(six < 40 ? six + 48 : six + 56);
        }
        int fill = 6 * to - report.length;
        sent.add(',');
        sent.add('0' + (fill > 0 ? fill : 0));
        closeSentence(start);
    }

    private void closeSentence(int start) {
        int sum = 0;
        for (int i = start + 1; i < sent.size; i++) {
            sum ^= sent.at(i);
        }
        sent.add('*');
        sent.add(sixteen(sum >> 4 & 15));
        sent.add(sixteen(sum & 15));
        sent.add(13);
        sent.add(10);
    }

    private static int sixteen(int value) {
        return value < 10 ? '0' + value : 'A' + value - 10;
    }

    /** A row of signs 0 .. 255 with room for so many. */
    private static final class SignRow {
        private final byte[] signs;
        int size;

        SignRow(int room) {
            signs = new byte[room < 0 ? 0 : room];
        }

        boolean hasRoom(int more) {
            return size + more <= signs.length;
        }

        void add(int sign) {
            if (size >= 0 && size < signs.length) {
                signs[size] = (byte) sign;
                size++;
            }
        }

        void addWord(int word) {
            add(word >>> 24);
            add(word >>> 16);
            add(word >>> 8);
            add(word);
        }

        void addText(String text) {
            for (int i = 0; i < text.length(); i++) {
                add(text.charAt(i));
            }
        }

        int at(int i) {
            return i >= 0 && i < size && i < signs.length ? signs[i] & 255 : NONE;
        }
    }

    /** A sentence as it comes, sign by sign. */
    private static final class Sentence {
        static final int GOES_ON = 0;
        static final int BROKE = 1;
        static final int ENDED = 2;

        static final int ROOM = 78;

        private static final int OUTSIDE = 0;
        private static final int BODY = 1;
        private static final int HIGH_DIGIT = 2;
        private static final int LOW_DIGIT = 3;
        private static final int RETURN = 4;
        private static final int NEW_LINE = 5;

        private final byte[] signs = new byte[ROOM];
        private int stage;
        int start;
        int length;
        int sum;
        int toldSum;

        void forget() {
            stage = OUTSIDE;
        }

        int underWay() {
            return stage == OUTSIDE ? 0 : length + 1;
        }

        int at(int i) {
            return i >= 0 && i < length && i < ROOM ? signs[i] : NONE;
        }

        int hear(int sign) {
            if (sign == '$' || sign == '!') {
                return begin(sign);
            }
            switch (stage) {
                case BODY: return sign == '*' ? step(length > 0, HIGH_DIGIT) : store(sign);
                case HIGH_DIGIT: return hearDigit(sign, LOW_DIGIT);
                case LOW_DIGIT: return hearDigit(sign, RETURN);
                case RETURN: return step(sign == 13, NEW_LINE);
                case NEW_LINE:
                    stage = OUTSIDE;
                    return sign == 10 ? ENDED : BROKE;
                default: return GOES_ON;
            }
        }

        private int begin(int sign) {
            int outcome = stage == OUTSIDE ? GOES_ON : BROKE;
            stage = BODY;
            start = sign;
            length = 0;
            sum = 0;
            toldSum = 0;
            return outcome;
        }

        private int step(boolean fits, int next) {
            stage = fits ? next : OUTSIDE;
            return fits ? GOES_ON : BROKE;
        }

        private int store(int sign) {
            if (sign < 32 || sign > 126 || length < 0 || length >= ROOM) {
                return step(false, OUTSIDE);
            }
            signs[length] = (byte) sign;
            length++;
            sum ^= sign;
            return GOES_ON;
        }

        private int hearDigit(int sign, int next) {
            if (sign >= '0' && sign <= '9') {
                toldSum = toldSum * 16 + sign - '0';
                return step(true, next);
            }
            if (sign >= 'A' && sign <= 'F') {
                toldSum = toldSum * 16 + sign - 'A' + 10;
                return step(true, next);
            }
            return step(false, next);
        }
    }

    /**
     * The fields of a sentence. What reads a field answers NONE of an empty one;
     * of one that is not as told it answers NONE, too, and good is false from then on.
     */
    private static final class Fields {
        static final int OTHER = 0;
        static final int GGA = 1;
        static final int RMC = 2;
        static final int VTG = 3;
        static final int VDM = 4;

        private static final int DEGREE = 600000;

        private final byte[] signs = new byte[Sentence.ROOM];
        // A sentence of commas alone has one field more than signs; one start more is that behind the last field.
        private final int[] starts = new int[Sentence.ROOM + 2];
        int many;
        boolean good;

        void split(Sentence sentence) {
            good = true;
            many = 1;
            starts[0] = 0;
            int length = sentence.length <= Sentence.ROOM ? sentence.length : Sentence.ROOM;
            for (int i = 0; i < length; i++) {
                int sign = sentence.at(i);
                signs[i] = (byte) sign;
                if (sign == ',' && many < starts.length - 1) {
                    starts[many] = i + 1;
                    many++;
                }
            }
            starts[many] = length + 1;
        }

        int form(int start) {
            if (to(0) != 5) {
                return OTHER;
            }
            for (int i = 0; i < 5; i++) {
                boolean fits = signs[i] >= 'A' && signs[i] <= 'Z' || signs[i] >= '0' && signs[i] <= '9';
                if (!fits) {
                    return OTHER;
                }
            }
            if (start == '!') {
                return isForm("VDM") || isForm("VDO") ? VDM : OTHER;
            }
            if (isForm("GGA")) {
                return GGA;
            }
            if (isForm("RMC")) {
                return RMC;
            }
            return isForm("VTG") ? VTG : OTHER;
        }

        private boolean isForm(String form) {
            return signs[2] == form.charAt(0) && signs[3] == form.charAt(1) && signs[4] == form.charAt(2);
        }

        boolean isEmpty(int f) {
            return from(f) >= to(f);
        }

        private int from(int f) {
            return f >= 0 && f < many ? starts[f] : 0;
        }

        private int to(int f) {
            return f >= 0 && f < many ? starts[f + 1] - 1 : 0;
        }

        private int at(int i) {
            return i >= 0 && i < signs.length ? signs[i] : NONE;
        }

        private int wrong() {
            good = false;
            return NONE;
        }

        /** A digit from least to most; the field may not be empty. */
        int digit(int f, int least, int most) {
            int value = digitAt(from(f));
            boolean fits = to(f) - from(f) == 1 && value >= least && value <= most;
            return fits ? value : wrong();
        }

        int oneOf(int f, String allowed) {
            if (isEmpty(f)) {
                return NONE;
            }
            int sign = at(from(f));
            boolean fits = to(f) - from(f) == 1 && allowed.indexOf((char) sign) >= 0;
            return fits ? sign : wrong();
        }

        int whole(int f, int least, int most) {
            return isEmpty(f) ? NONE : digits(from(f), to(f), least, most, 0, 0);
        }

        int decimal(int f, int d, int w) {
            return isEmpty(f) ? NONE : digits(from(f), to(f), 1, w, 6, d);
        }

        int signed(int f, int d, int w) {
            if (at(from(f)) != '-') {
                return decimal(f, d, w);
            }
            int value = digits(from(f) + 1, to(f), 1, w, 6, d);
            return value == NONE ? NONE : -value;
        }

        int course(int f) {
            int value = decimal(f, 2, 3);
            return value < 36000 ? value : wrong();
        }

        int variation(int f) {
            int value = decimal(f, 1, 3);
            return value <= 1800 ? onSide(value, f + 1, 'E', 'W') : wrong();
        }

        int time(int f) {
            int value = isEmpty(f) ? NONE : digits(from(f), to(f), 6, 6, 3, 3);
            if (value == NONE) {
                return NONE;
            }
            int hours = value / 10000000;
            int minutes = value / 100000 % 100;
            int thousandths = value % 100000;
            if (hours > 23 || minutes > 59 || thousandths > 59999) {
                return wrong();
            }
            return (hours * 60 + minutes) * 60000 + thousandths;
        }

        int date(int f) {
            int value = whole(f, 6, 6);
            if (value == NONE) {
                return NONE;
            }
            int day = value / 10000;
            int month = value / 100 % 100;
            int year = value % 100;
            if (day < 1 || day > 31 || month < 1 || month > 12) {
                return wrong();
            }
            return day + 100 * month + 10000 * year;
        }

        int latitude(int f) {
            return onSide(angle(f, 4, 90 * DEGREE), f + 1, 'N', 'S');
        }

        int longitude(int f) {
            return onSide(angle(f, 5, 180 * DEGREE), f + 1, 'E', 'W');
        }

        private int angle(int f, int width, int most) {
            int value = isEmpty(f) ? NONE : digits(from(f), to(f), width, width, 6, 4);
            if (value == NONE) {
                return NONE;
            }
            int minutes = value % 1000000;
            int inAll = value / 1000000 * DEGREE + minutes;
            return minutes < DEGREE && inAll <= most ? inAll : wrong();
        }

        private int onSide(int value, int f, int above, int below) {
            if (value == NONE) {
                return isEmpty(f) ? NONE : wrong();
            }
            int side = to(f) - from(f) == 1 ? at(from(f)) : NONE;
            if (side == above) {
                return value;
            }
            return side == below ? -value : wrong();
        }

        /** The unit of the field ahead: it may stand alone, but no value without it. */
        void checkUnit(int f, int unit) {
            boolean fits = isEmpty(f) ? isEmpty(f - 1) : to(f) - from(f) == 1 && at(from(f)) == unit;
            if (!fits) {
                good = false;
            }
        }

        /** From least to most digits, perhaps a point and up to behind digits, as a number that counts in 10^-kept. */
        private int digits(int from, int to, int least, int most, int behind, int kept) {
            int at = from;
            int value = 0;
            while (at < to && at - from < most && digitAt(at) >= 0) {
                value = value * 10 + digitAt(at);
                at++;
            }
            if (at - from < least) {
                return wrong();
            }
            int left = kept;
            if (at < to) {
                int first = at + 1;
                if (at(at) != '.' || to - first < 1 || to - first > behind) {
                    return wrong();
                }
                for (int i = first; i < to; i++) {
                    int digit = digitAt(i);
                    if (digit < 0) {
                        return wrong();
                    }
                    if (left > 0) {
                        value = value * 10 + digit;
                        left--;
                    }
                }
            }
            for (int i = 0; i < left; i++) {
                value *= 10;
            }
            return value;
        }

        /** -1 if no digit stands there. */
        private int digitAt(int i) {
            boolean fits = i >= 0 && i < signs.length && signs[i] >= '0' && signs[i] <= '9';
            return fits ? signs[i] - '0' : -1;
        }

        void checkPack(int f) {
            int length = to(f) - from(f);
            if (length < 1 || length > 60) {
                good = false;
            }
            for (int i = from(f); i < to(f); i++) {
                int sign = at(i);
                boolean fits = sign >= 48 && sign <= 87 || sign >= 96 && sign <= 119;
                if (!fits) {
                    good = false;
                }
            }
        }

        void unpack(int f, int fill, BitRow row) {
            int last = to(f) - 1;
            for (int i = from(f); i <= last; i++) {
                int six = at(i) - 48;
                if (six > 40) {
                    six -= 8;
                }
                int left = i == last ? fill : 0;
                row.append(six >> left, 6 - left);
            }
        }
    }

    /** Where the ship is and how it goes: the fix. */
    private static final class Position {
        static final int VALUES = 18;

        private static final int TIME = 0;
        private static final int LATITUDE = 1;
        private static final int LONGITUDE = 2;
        private static final int QUALITY = 3;
        private static final int SATELLITES = 4;
        private static final int SHARPNESS = 5;
        private static final int HEIGHT = 6;
        private static final int GEOID = 7;
        private static final int AGE = 8;
        private static final int STATION = 9;
        private static final int VALID = 10;
        private static final int SPEED = 11;
        private static final int COURSE = 12;
        private static final int DATE = 13;
        private static final int VARIATION = 14;
        private static final int MAGNETIC = 15;
        private static final int KILOMETRES = 16;
        private static final int MODE = 17;

        private static final String MODES = "ADEMNS";

        private static final int[] OF_GGA = {
            TIME, LATITUDE, LONGITUDE, QUALITY, SATELLITES, SHARPNESS, HEIGHT, GEOID, AGE, STATION
        };
        private static final int[] OF_RMC = {
            TIME, LATITUDE, LONGITUDE, VALID, SPEED, COURSE, DATE, VARIATION, MODE
        };
        private static final int[] OF_VTG = {
            SPEED, COURSE, MAGNETIC, KILOMETRES, MODE
        };

        final int[] told = new int[VALUES];
        // Values wait here until the whole sentence is known to be as told.
        private final int[] fresh = new int[VALUES];

        Position() {
            Arrays.fill(told, NONE);
        }

        void forget() {
            Arrays.fill(told, NONE);
        }

        boolean takeGga(Fields f) {
            if (f.many != 15) {
                return false;
            }
            fresh[TIME] = f.time(1);
            fresh[LATITUDE] = f.latitude(2);
            fresh[LONGITUDE] = f.longitude(4);
            fresh[QUALITY] = f.digit(6, 0, 8);
            fresh[SATELLITES] = f.whole(7, 1, 2);
            fresh[SHARPNESS] = f.decimal(8, 2, 2);
            fresh[HEIGHT] = f.signed(9, 1, 5);
            f.checkUnit(10, 'M');
            fresh[GEOID] = f.signed(11, 1, 4);
            f.checkUnit(12, 'M');
            fresh[AGE] = f.decimal(13, 1, 4);
            fresh[STATION] = f.whole(14, 4, 4);
            return settle(f.good, OF_GGA);
        }

        boolean takeRmc(Fields f) {
            if (f.many != 12 && f.many != 13 || f.isEmpty(2)) {
                return false;
            }
            fresh[TIME] = f.time(1);
            fresh[VALID] = f.oneOf(2, "AV") == 'A' ? 1 : 0;
            fresh[LATITUDE] = f.latitude(3);
            fresh[LONGITUDE] = f.longitude(5);
            fresh[SPEED] = f.decimal(7, 2, 4);
            fresh[COURSE] = f.course(8);
            fresh[DATE] = f.date(9);
            fresh[VARIATION] = f.variation(10);
            fresh[MODE] = f.oneOf(12, MODES);
            return settle(f.good, OF_RMC);
        }

        boolean takeVtg(Fields f) {
            if (f.many != 9 && f.many != 10) {
                return false;
            }
            fresh[COURSE] = f.course(1);
            f.checkUnit(2, 'T');
            fresh[MAGNETIC] = f.course(3);
            f.checkUnit(4, 'M');
            fresh[SPEED] = f.decimal(5, 2, 4);
            f.checkUnit(6, 'N');
            fresh[KILOMETRES] = f.decimal(7, 2, 4);
            f.checkUnit(8, 'K');
            fresh[MODE] = f.oneOf(9, MODES);
            return settle(f.good, OF_VTG);
        }

        private boolean settle(boolean good, int[] values) {
            for (int i = 0; good && i < values.length; i++) {
                told[values[i]] = fresh[values[i]];
            }
            return good;
        }
    }

    /** A row of bits with room for so many; behind its end it reads as noughts. */
    private static final class BitRow {
        private final int room;
        private final int[] words;
        int length;

        BitRow(int room) {
            this.room = room < 0 ? 0 : room;
            // One word more, so that two neighbours can always be read at once.
            words = new int[this.room / 32 + 2];
        }

        void empty() {
            Arrays.fill(words, 0);
            length = 0;
        }

        void copy(BitRow other) {
            for (int i = 0; i < words.length; i++) {
                words[i] = i < other.words.length ? other.words[i] : 0;
            }
            length = other.length;
        }

        /** The n lowest bits of a value, n from 1 to 32. */
        void append(int value, int n) {
            if (n < 1 || n > 32 || length < 0 || length > room - n) {
                return;
            }
            int word = length >> 5;
            long clean = (long) value & (1L << n) - 1;
            long moved = clean << 64 - n - (length & 31);
            words[word] |= (int) (moved >>> 32);
            words[word + 1] |= (int) moved;
            length += n;
        }

        /** n bits, from 1 to 32. */
        int read(int at, int n) {
            int word = at >> 5;
            if (n < 1 || n > 32 || word < 0 || word >= words.length - 1) {
                return 0;
            }
            long pair = (long) words[word] << 32 | words[word + 1] & 0xFFFFFFFFL;
            return (int) (pair << (at & 31) >>> 64 - n);
        }
    }

    /** Parts of messages that are not whole yet, for each id. */
    private static final class Parts {
        static final int EMPTY_ID = 10;

        private static final int IDS = 11;

        private final BitRow[] rows = new BitRow[IDS];
        private final int[] manys = new int[IDS];
        private final int[] kept = new int[IDS];

        void forget() {
            Arrays.fill(kept, 0);
        }

        int keptInAll() {
            int sum = 0;
            for (int id = 0; id < IDS; id++) {
                sum += kept[id];
            }
            return sum;
        }

        /** Says whether anything was kept. */
        boolean drop(int id) {
            if (id < 0 || id >= IDS || kept[id] == 0) {
                return false;
            }
            kept[id] = 0;
            return true;
        }

        boolean awaits(int id, int many, int part) {
            return id >= 0 && id < IDS && kept[id] > 0 && manys[id] == many && kept[id] == part - 1;
        }

        /** Counts one part more and answers the row that its bits come behind. */
        BitRow keep(int id, int many) {
            int slot = id >= 0 && id < IDS ? id : EMPTY_ID;
            if (rows[slot] == null) {
                rows[slot] = new BitRow(MESSAGE_ROOM);
            }
            if (kept[slot] == 0) {
                rows[slot].empty();
            }
            manys[slot] = many;
            kept[slot]++;
            return rows[slot];
        }
    }

    /** What a vessel told, numbered as the call vessel names it. */
    private static final class Vessel {
        static final int VALUES = 24;
        static final int CALL = 30;
        static final int NAME = 31;
        static final int GOAL = 32;

        // Type, two bits, and MMSI.
        static final int HEAD_BITS = 38;

        private static final int UNNAMED = -1;
        private static final int MMSI = 0;
        private static final int LAST = 1;
        private static final int STATUS = 2;
        private static final int TURN = 3;
        private static final int SPEED = 4;
        private static final int SHARP = 5;
        private static final int LONGITUDE = 6;
        private static final int LATITUDE = 7;
        private static final int COURSE = 8;
        private static final int HEADING = 9;
        private static final int SECOND = 10;
        private static final int YEAR = 11;
        private static final int MONTH = 12;
        private static final int DAY = 13;
        private static final int HOUR = 14;
        private static final int MINUTE = 15;
        private static final int IMO = 16;
        private static final int KIND = 17;
        private static final int BOW = 18;
        private static final int STERN = 19;
        private static final int PORT = 20;
        private static final int STARBOARD = 21;
        private static final int DRAUGHT = 22;
        private static final int MESSAGES = 23;

        // Behind the head: a value and its bits, by turns.
        private static final int[] OF_1 = {
            STATUS, 4, TURN, 8, SPEED, 10, SHARP, 1, LONGITUDE, 28, LATITUDE, 27, COURSE, 12, HEADING, 9, SECOND, 6,
            UNNAMED, 25
        };
        private static final int[] OF_4 = {
            YEAR, 14, MONTH, 4, DAY, 5, HOUR, 5, MINUTE, 6, SECOND, 6, SHARP, 1, LONGITUDE, 28, LATITUDE, 27,
            UNNAMED, 4, UNNAMED, 30
        };
        private static final int[] OF_5 = {
            UNNAMED, 2, IMO, 30, CALL, 42, NAME, 120, KIND, 8, BOW, 9, STERN, 9, PORT, 6, STARBOARD, 6,
            UNNAMED, 4, MONTH, 4, DAY, 5, HOUR, 5, MINUTE, 6, DRAUGHT, 8, GOAL, 120, UNNAMED, 2
        };
        private static final int[] OF_18 = {
            UNNAMED, 8, SPEED, 10, SHARP, 1, LONGITUDE, 28, LATITUDE, 27, COURSE, 12, HEADING, 9, SECOND, 6,
            UNNAMED, 29
        };

        private static final int TEXTS = 3;
        private static final int TEXT_ROOM = 20;

        final int[] values = new int[VALUES];
        final int[] lengths = new int[TEXTS];
        private final byte[] signs = new byte[TEXTS * TEXT_ROOM];

        /** How many bits a message of a type has; 0 of a type that is not known. */
        static int bitsOf(int type) {
            switch (type) {
                case 1: case 2: case 3: case 4: case 18: return 168;
                case 5: return 424;
                default: return 0;
            }
        }

        private static int[] layoutOf(int type) {
            switch (type) {
                case 4: return OF_4;
                case 5: return OF_5;
                case 18: return OF_18;
                default: return OF_1;
            }
        }

        private static boolean hasSign(int what) {
            return what == TURN || what == LONGITUDE || what == LATITUDE;
        }

        void begin(int mmsi) {
            Arrays.fill(values, NONE);
            Arrays.fill(lengths, 0);
            values[MMSI] = mmsi;
            values[MESSAGES] = 0;
        }

        void learn(int type, BitRow message) {
            int[] layout = layoutOf(type);
            int at = HEAD_BITS;
            for (int i = 0; i + 1 < layout.length; i += 2) {
                int what = layout[i];
                int width = layout[i + 1];
                if (what >= CALL) {
                    learnText(what - CALL, message, at, width / 6);
                } else if (what >= 0 && what < VALUES) {
                    int value = message.read(at, width);
                    values[what] = hasSign(what) ? value << 32 - width >> 32 - width : value;
                }
                at += width;
            }
            values[LAST] = type;
            values[MESSAGES]++;
        }

        private void learnText(int text, BitRow message, int at, int room) {
            if (text < 0 || text >= TEXTS) {
                return;
            }
            int length = 0;
            for (int i = 0; i < room && i < TEXT_ROOM; i++) {
                int six = message.read(at + 6 * i, 6);
                if (six == 0) {
                    break;
                }
                signs[text * TEXT_ROOM + i] = (byte) (six < 32 ? six + 64 : six);
                if (six != ' ') {
                    length = i + 1;
                }
            }
            lengths[text] = length;
        }

        int signOf(int text, int i) {
            if (text < 0 || text >= TEXTS || i < 0 || i >= lengths[text] || i >= TEXT_ROOM) {
                return NONE;
            }
            return signs[text * TEXT_ROOM + i];
        }

        void tell(int type, BitRow report) {
            report.empty();
            report.append(type, 6);
            report.append(0, 2);
            report.append(values[MMSI], 30);
            int[] layout = layoutOf(type);
            for (int i = 0; i + 1 < layout.length; i += 2) {
                int what = layout[i];
                int width = layout[i + 1];
                if (what >= CALL) {
                    tellText(what - CALL, report, width / 6);
                } else {
                    boolean known = what >= 0 && what < VALUES && values[what] != NONE;
                    report.append(known ? values[what] : 0, width);
                }
            }
        }

        private void tellText(int text, BitRow report, int room) {
            for (int i = 0; i < room; i++) {
                int sign = signOf(text, i);
                int six = sign >= 64 ? sign - 64 : sign;
                report.append(sign == NONE ? 0 : six, 6);
            }
        }
    }

    /** The table of vessels, as they came first. */
    private static final class Fleet {
        private static final int ROOM = 40;

        // Rows behind size are kept, so that a cleared table makes no new ones.
        private final Vessel[] vessels = new Vessel[ROOM];
        int size;

        Vessel at(int v) {
            return v >= 0 && v < size && v < ROOM ? vessels[v] : null;
        }

        int numberOf(int mmsi) {
            for (int v = 0; v < size && v < ROOM; v++) {
                if (vessels[v] != null && vessels[v].values[Vessel.MMSI] == mmsi) {
                    return v;
                }
            }
            return NONE;
        }

        /** The vessel with an MMSI, made if it is not there; null if there is no room for it. */
        Vessel vesselOf(int mmsi) {
            int v = numberOf(mmsi);
            if (v >= 0 && v < ROOM) {
                return vessels[v];
            }
            if (size < 0 || size >= ROOM) {
                return null;
            }
            if (vessels[size] == null) {
                vessels[size] = new Vessel();
            }
            vessels[size].begin(mmsi);
            size++;
            return vessels[size - 1];
        }
    }
}
