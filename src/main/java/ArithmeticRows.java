import java.util.Arrays;

/**
 * Bits coded by how likely they are, with the table of 47 states of T.88 and T.800, and read back.
 * The rules are those of the document; a context is held as twice its state and its likely bit.
 */
public final class ArithmeticRows {
    public static final int OUT_OF_BAND = -2147483648;

    private static final int MOST_CONTEXTS = 65536;
    private static final int SETS = 8;
    private static final int SET_SIZE = 512;
    private static final int MOST_KEPT = 6;
    private static final int FULL_FOR_FEEDING = 4000;
    // A is 1 at least, so 15 doublings bring it to 8000; the bound only makes the end plain to see.
    private static final int MOST_RENEWALS = 16;

    // The kinds of sizes of whole numbers; their prefixes are 0, 10, 110, 1110, 11110, 11111.
    private static final int[] PREFIX = {0, 2, 6, 14, 30, 31};
    private static final int[] PREFIX_LENGTH = {1, 2, 3, 4, 5, 5};
    private static final int[] LEAST_SIZE = {0, 4, 20, 84, 340, 4436};
    private static final int[] SIZE_LENGTH = {2, 4, 6, 8, 12, 32};
    private static final int LAST_KIND = 5;

    private final int contexts;
    private final Side encoderSide;
    private final Side decoderSide;
    private final Row row;
    private final Encoder encoder;
    private final Decoder decoder;
    // One row for all that is kept, so that save and reset make nothing anew.
    private final int[] kept;
    private int keptCount;
    private boolean decoding;
    // P of the document: the bits of the whole number at hand so far.
    private int path;

    public ArithmeticRows(int contexts) {
        this.contexts = Math.max(1, Math.min(MOST_CONTEXTS, contexts));
        encoderSide = new Side(this.contexts);
        decoderSide = new Side(this.contexts);
        row = new Row();
        encoder = new Encoder(row);
        decoder = new Decoder(row);
        kept = new int[MOST_KEPT * this.contexts];
        keptCount = 0;
        decoding = false;
        path = 1;
    }

    public int encode(int context, int bit)
            throws IndexOutOfBoundsException, IllegalStateException, IllegalArgumentException {
        needContext(context);
        needEncoding();
        if (bit != 0 && bit != 1) {
            throw new IllegalArgumentException("a bit is 0 or 1");
        }
        encoder.put(encoderSide.own, context, bit);
        return row.length();
    }

    public int finish() throws IllegalStateException {
        needEncoding();
        encoder.endSegment();
        decoding = true;
        decoder.open(0);
        return row.length();
    }

    public int byteAt(int i) throws IndexOutOfBoundsException {
        if (i < 0 || i >= row.length()) {
            throw new IndexOutOfBoundsException("there is no such byte");
        }
        return row.byteBefore(row.length(), i);
    }

    public boolean feed(int b) throws IllegalStateException, IllegalArgumentException {
        if (!decoding || !decoder.isUntouched()) {
            throw new IllegalStateException("bytes come behind finish and before reading");
        }
        if (b < 0 || b > 0xff) {
            throw new IllegalArgumentException("a byte is 0 .. 255");
        }
        if (row.length() >= FULL_FOR_FEEDING) {
            return false;
        }
        row.add(b);
        return true;
    }

    public int decode(int context) throws IndexOutOfBoundsException, IllegalStateException {
        needContext(context);
        needDecoding();
        return decoder.read(decoderSide.own, context);
    }

    public int state(int side, int context) throws IndexOutOfBoundsException {
        if (side != 0 && side != 1) {
            throw new IndexOutOfBoundsException("a side is 0 or 1");
        }
        needContext(context);
        return at(side == 0 ? encoderSide.own : decoderSide.own, context);
    }

    public int whole(int set, int v) throws IndexOutOfBoundsException, IllegalStateException {
        needSet(set);
        needEncoding();
        int size = v == OUT_OF_BAND ? 0 : Math.abs(v);
        int kind = kindOf(size);
        int prefixLength = at(PREFIX_LENGTH, kind);
        int sizeLength = at(SIZE_LENGTH, kind);
        path = 1;
        putBits(set, v < 0 ? 1 : 0, 1);
        putBits(set, at(PREFIX, kind), prefixLength);
        putBits(set, size - at(LEAST_SIZE, kind), sizeLength);
        return 1 + prefixLength + sizeLength;
    }

    public int readWhole(int set) throws IndexOutOfBoundsException, IllegalStateException {
        needSet(set);
        needDecoding();
        path = 1;
        boolean below = readBits(set, 1) == 1;
        int kind = 0;
        while (kind < LAST_KIND && readBits(set, 1) == 1) {
            kind++;
        }
        int size = readBits(set, at(SIZE_LENGTH, kind)) + at(LEAST_SIZE, kind);
        if (!below) {
            return size;
        }
        return size == 0 ? OUT_OF_BAND : -size;
    }

    public int save() throws IllegalStateException {
        if (keptCount >= MOST_KEPT) {
            throw new IllegalStateException("no more than 6 are kept");
        }
        System.arraycopy(sideAtWork().own, 0, kept, keptCount * contexts, contexts);
        keptCount++;
        return keptCount - 1;
    }

    public boolean back(int saved) {
        if (saved < 0 || saved >= keptCount) {
            return false;
        }
        System.arraycopy(kept, saved * contexts, sideAtWork().own, 0, contexts);
        return true;
    }

    public boolean raw(boolean on) {
        return decoding ? decoder.goOn(on) : encoder.turn(on);
    }

    public int beyond() {
        return decoding ? decoder.takenBeyond() : 0;
    }

    public void reset() {
        encoderSide.clear();
        decoderSide.clear();
        row.clear();
        encoder.begin(false);
        decoder.open(0);
        keptCount = 0;
        decoding = false;
        path = 1;
    }

    private void needContext(int context) {
        if (context < 0 || context >= contexts) {
            throw new IndexOutOfBoundsException("there is no such context");
        }
    }

    private void needSet(int set) {
        if (set < 0 || set >= SETS) {
            throw new IndexOutOfBoundsException("there is no such set");
        }
    }

    private void needEncoding() {
        if (decoding) {
            throw new IllegalStateException("it is decoding");
        }
    }

    private void needDecoding() {
        if (!decoding) {
            throw new IllegalStateException("it is encoding");
        }
    }

    private Side sideAtWork() {
        return decoding ? decoderSide : encoderSide;
    }

    private static int kindOf(int size) {
        int kind = LAST_KIND;
        while (kind > 0 && size < at(LEAST_SIZE, kind)) {
            kind--;
        }
        return kind;
    }

    private void putBits(int set, int number, int length) {
        for (int k = length - 1; k >= 0; k--) {
            int bit = (number >>> k) & 1;
            encoder.put(encoderSide.sets, set * SET_SIZE + path, bit);
            path = longerPath(path, bit);
        }
    }

    private int readBits(int set, int length) {
        int number = 0;
        for (int k = 0; k < length; k++) {
            int bit = decoder.read(decoderSide.sets, set * SET_SIZE + path);
            path = longerPath(path, bit);
            number = (number << 1) | bit;
        }
        return number;
    }

    private static int longerPath(int path, int bit) {
        int longer = 2 * path + bit;
        return longer < SET_SIZE ? longer : (longer & 0xff) | 0x100;
    }

    // All that is looked up goes through here, so that no index is used untested.
    private static int at(int[] numbers, int i) {
        return i >= 0 && i < numbers.length ? numbers[i] : 0;
    }

    /** The contexts of the encoder or of the decoder. */
    private static final class Side {
        private final int[] own;
        private final int[] sets;

        Side(int contexts) {
            own = new int[contexts];
            sets = new int[SETS * SET_SIZE];
        }

        void clear() {
            Arrays.fill(own, 0);
            Arrays.fill(sets, 0);
        }
    }

    /** The table of states, asked with contexts as they are held. */
    private static final class Table {
        private static final int[] Q = {
            0x5601, 0x3401, 0x1801, 0x0ac1, 0x0521, 0x0221, 0x5601, 0x5401, 0x4801, 0x3801,
            0x3001, 0x2401, 0x1c01, 0x1601, 0x5601, 0x5401, 0x5101, 0x4801, 0x3801, 0x3401,
            0x3001, 0x2801, 0x2401, 0x2201, 0x1c01, 0x1801, 0x1601, 0x1401, 0x1201, 0x1101,
            0x0ac1, 0x09c1, 0x08a1, 0x0521, 0x0441, 0x02a1, 0x0221, 0x0141, 0x0111, 0x0085,
            0x0049, 0x0025, 0x0015, 0x0009, 0x0005, 0x0001, 0x5601};
        private static final int[] BEHIND_LIKELY = {
            1, 2, 3, 4, 5, 38, 7, 8, 9, 10,
            11, 12, 13, 29, 15, 16, 17, 18, 19, 20,
            21, 22, 23, 24, 25, 26, 27, 28, 29, 30,
            31, 32, 33, 34, 35, 36, 37, 38, 39, 40,
            41, 42, 43, 44, 45, 45, 46};
        private static final int[] BEHIND_OTHER = {
            1, 6, 9, 12, 29, 33, 6, 14, 14, 14,
            17, 18, 20, 21, 14, 14, 15, 16, 17, 18,
            19, 19, 20, 21, 22, 23, 24, 25, 26, 27,
            28, 29, 30, 31, 32, 33, 34, 35, 36, 37,
            38, 39, 40, 41, 42, 43, 46};

        static int q(int context) {
            return at(Q, context >> 1);
        }

        static int behindLikely(int context) {
            return 2 * at(BEHIND_LIKELY, context >> 1) + (context & 1);
        }

        static int behindOther(int context) {
            int from = context >> 1;
            int likely = context & 1;
            boolean turns = from == 0 || from == 6 || from == 14;
            return 2 * at(BEHIND_OTHER, from) + (turns ? 1 - likely : likely);
        }
    }

    /** The bytes of all segments, and where each segment begins. */
    private static final class Row {
        // 512 calls put out less: a whole number has 38 bits, each renewed 15 times at most,
        // and a byte holds 7 renewals at least. What comes later is free, and is dropped.
        private static final int MOST_BYTES = 42000;
        // Each of 512 calls may begin a segment behind the first one.
        private static final int MOST_SEGMENTS = 513;

        private final int[] bytes;
        private final int[] starts;
        private final boolean[] plain;
        private int size;
        private int segments;
        private int lastStart;

        Row() {
            bytes = new int[MOST_BYTES];
            starts = new int[MOST_SEGMENTS];
            plain = new boolean[MOST_SEGMENTS];
            size = 0;
            segments = 1;
            lastStart = 0;
        }

        void clear() {
            size = 0;
            segments = 1;
            lastStart = 0;
        }

        int length() {
            return size;
        }

        int segmentCount() {
            return segments;
        }

        private boolean has(int segment) {
            return segment >= 0 && segment < segments && segment < MOST_SEGMENTS;
        }

        boolean isPlain(int segment) {
            return has(segment) && plain[segment];
        }

        void beginSegment(boolean asTheyAre) {
            if (segments >= 0 && segments < MOST_SEGMENTS) {
                starts[segments] = size;
                plain[segments] = asTheyAre;
                lastStart = size;
                segments++;
            }
        }

        int startOf(int segment) {
            return has(segment) ? starts[segment] : size;
        }

        int endOf(int segment) {
            return startOf(segment + 1);
        }

        void add(int b) {
            if (size >= 0 && size < bytes.length) {
                bytes[size] = b & 0xff;
                size++;
            }
        }

        /** The byte i, or ff if it is not one of those before the end. */
        int byteBefore(int end, int i) {
            return i >= 0 && i < end && i < bytes.length ? bytes[i] : 0xff;
        }

        /** The byte put out last in the last segment, or -1 while it has none. */
        int last() {
            int i = size - 1;
            return i >= lastStart && i >= 0 && i < bytes.length ? bytes[i] : -1;
        }

        void raiseLast() {
            int i = size - 1;
            if (i >= 0 && i < bytes.length) {
                bytes[i] = (bytes[i] + 1) & 0xff;
            }
        }

        void dropLastIfFull() {
            if (last() == 0xff) {
                size--;
            }
        }
    }

    /** What puts bits into the last segment. */
    private static final class Encoder {
        private final Row row;
        private boolean plain;
        private int a;
        private int c;
        private int t;
        // The byte of plain bits that is begun: its bits, and how many it has and takes.
        private int begun;
        private int begunBits;
        private int roomForBits;

        Encoder(Row row) {
            this.row = row;
            begin(false);
        }

        void begin(boolean asTheyAre) {
            plain = asTheyAre;
            a = 0x8000;
            c = 0;
            t = 12;
            begun = 0;
            begunBits = 0;
            roomForBits = 8;
        }

        boolean turn(boolean asTheyAre) {
            if (plain == asTheyAre) {
                return false;
            }
            endSegment();
            row.beginSegment(asTheyAre);
            begin(asTheyAre);
            return true;
        }

        void put(int[] contexts, int i, int bit) {
            if (plain) {
                putPlain(bit);
            } else {
                code(contexts, i, bit);
            }
        }

        void endSegment() {
            if (plain) {
                fillByte();
            } else {
                flush();
            }
            row.dropLastIfFull();
        }

        private void code(int[] contexts, int i, int bit) {
            if (i < 0 || i >= contexts.length) {
                return;
            }
            int context = contexts[i];
            int q = Table.q(context);
            boolean likely = bit == (context & 1);
            a -= q;
            if (likely && a >= 0x8000) {
                c += q;
                return;
            }
            // The larger part is the likely bit's: below Q the two parts change places.
            if (likely == (a < q)) {
                a = q;
            } else {
                c += q;
            }
            contexts[i] = likely ? Table.behindLikely(context) : Table.behindOther(context);
            renew();
        }

        private void renew() {
            for (int k = 0; k < MOST_RENEWALS && a < 0x8000; k++) {
                a <<= 1;
                c <<= 1;
                t--;
                if (t == 0) {
                    putOut();
                }
            }
        }

        private void putOut() {
            int last = row.last();
            if (last >= 0 && last < 0xff && c >= 1 << 27) {
                row.raiseLast();
                last++;
                c &= (1 << 27) - 1;
            }
            // Behind ff a byte has seven bits, so that a carry finds room in its highest one.
            if (last == 0xff) {
                row.add(c >>> 20);
                c &= (1 << 20) - 1;
                t = 7;
            } else {
                row.add(c >>> 19);
                c &= (1 << 19) - 1;
                t = 8;
            }
        }

        private void flush() {
            int d = c + a;
            c |= 0xffff;
            if (c >= d) {
                c -= 0x8000;
            }
            c <<= t;
            putOut();
            c <<= t;
            putOut();
        }

        private void putPlain(int bit) {
            begun = (begun << 1) | bit;
            begunBits++;
            if (begunBits >= roomForBits) {
                row.add(begun);
                roomForBits = begun == 0xff ? 7 : 8;
                begun = 0;
                begunBits = 0;
            }
        }

        private void fillByte() {
            for (int k = 0; k < 8 && begunBits > 0; k++) {
                putPlain(k & 1);
            }
        }
    }

    /** What reads bits of the segment at hand. */
    private static final class Decoder {
        private final Row row;
        private int segment;
        private boolean plain;
        private boolean started;
        private int end;
        private int position;
        private int latest;
        private int a;
        private int c;
        private int t;
        private int bitsLeft;

        Decoder(Row row) {
            this.row = row;
            segment = 0;
            plain = false;
            started = false;
            latest = -1;
        }

        void open(int number) {
            segment = number;
            plain = row.isPlain(number);
            started = false;
            latest = -1;
            bitsLeft = 0;
        }

        boolean goOn(boolean asTheyAre) {
            int next = segment + 1;
            if (next >= row.segmentCount() || row.isPlain(next) != asTheyAre) {
                return false;
            }
            open(next);
            return true;
        }

        boolean isUntouched() {
            return segment == 0 && !started;
        }

        int takenBeyond() {
            return started ? Math.max(0, position - end) : 0;
        }

        int read(int[] contexts, int i) {
            if (!started) {
                start();
            }
            return plain ? readPlain() : readCoded(contexts, i);
        }

        // Not before the first bit: bytes may be fed till then, and none counts as taken.
        private void start() {
            started = true;
            position = row.startOf(segment);
            end = row.endOf(segment);
            if (plain) {
                return;
            }
            latest = row.byteBefore(end, position);
            position++;
            c = latest << 16;
            take();
            c <<= 7;
            t -= 7;
            a = 0x8000;
        }

        private int readCoded(int[] contexts, int i) {
            if (i < 0 || i >= contexts.length) {
                return 0;
            }
            int context = contexts[i];
            int q = Table.q(context);
            boolean likely;
            a -= q;
            if ((c >>> 16) < q) {
                likely = a < q;
                a = q;
            } else {
                c -= q << 16;
                if (a >= 0x8000) {
                    return context & 1;
                }
                likely = a >= q;
            }
            contexts[i] = likely ? Table.behindLikely(context) : Table.behindOther(context);
            renew();
            return likely ? context & 1 : 1 - (context & 1);
        }

        private void renew() {
            for (int k = 0; k < MOST_RENEWALS && a < 0x8000; k++) {
                if (t == 0) {
                    take();
                }
                a <<= 1;
                c <<= 1;
                t--;
            }
        }

        private void take() {
            int next = row.byteBefore(end, position);
            boolean behindFull = latest == 0xff;
            if (behindFull && next > 0x8f) {
                c += 0xff00;
                t = 8;
                return;
            }
            c += next << (behindFull ? 9 : 8);
            t = behindFull ? 7 : 8;
            latest = next;
            position++;
        }

        private int readPlain() {
            if (bitsLeft <= 0) {
                bitsLeft = latest == 0xff ? 7 : 8;
                latest = row.byteBefore(end, position);
                position++;
            }
            bitsLeft--;
            return (latest >>> bitsLeft) & 1;
        }
    }
}
