import java.util.ArrayList;
import java.util.List;

/**
 * A second writing of the document, word by word and without care for speed or room: lists instead of rows, longs
 * instead of ints, the table as the text that the document prints.
 */
final class Model {
    static final String TABLE = "5601 1 1 *, 3401 2 6, 1801 3 9, 0ac1 4 12, 0521 5 29, 0221 38 33, 5601 7 6 *, "
        + "5401 8 14, 4801 9 14, 3801 10 14, 3001 11 17, 2401 12 18, 1c01 13 20, 1601 29 21, 5601 15 14 *, "
        + "5401 16 14, 5101 17 15, 4801 18 16, 3801 19 17, 3401 20 18, 3001 21 19, 2801 22 19, 2401 23 20, "
        + "2201 24 21, 1c01 25 22, 1801 26 23, 1601 27 24, 1401 28 25, 1201 29 26, 1101 30 27, 0ac1 31 28, "
        + "09c1 32 29, 08a1 33 30, 0521 34 31, 0441 35 32, 02a1 36 33, 0221 37 34, 0141 38 35, 0111 39 36, "
        + "0085 40 37, 0049 41 38, 0025 42 39, 0015 43 40, 0009 44 41, 0005 45 42, 0001 45 43, 5601 46 46";
    private static final String[] STATES = TABLE.split(", ");

    private static final class Context {
        int state;
        int likely;

        long q() {
            return Long.parseLong(STATES[state].split(" ")[0], 16);
        }

        void behindLikely() {
            state = Integer.parseInt(STATES[state].split(" ")[1]);
        }

        void behindOther() {
            String[] words = STATES[state].split(" ");
            state = Integer.parseInt(words[2]);
            if (words.length > 3) {
                likely = 1 - likely;
            }
        }
    }

    private static final class Segment {
        boolean raw;
        List<Integer> bytes = new ArrayList<>();
        String bits = "";
    }

    private final int contexts;
    private Context[][] own;
    private Context[][] sets;
    private List<Segment> segments;
    private List<int[]> saved;
    private boolean decoding;
    private long a;
    private long c;
    private long t;
    private int segment;
    private int taken;
    private String rawBits;
    private boolean read;

    Model(int n) {
        contexts = n < 1 ? 1 : n > 65536 ? 65536 : n;
        reset();
    }

    void reset() {
        own = new Context[2][contexts];
        sets = new Context[2][8 * 512];
        for (int side = 0; side < 2; side++) {
            for (int i = 0; i < contexts; i++) {
                own[side][i] = new Context();
            }
            for (int i = 0; i < 8 * 512; i++) {
                sets[side][i] = new Context();
            }
        }
        segments = new ArrayList<>();
        saved = new ArrayList<>();
        decoding = false;
        begin(false);
    }

    private void begin(boolean raw) {
        Segment s = new Segment();
        s.raw = raw;
        segments.add(s);
        a = 0x8000;
        c = 0;
        t = 12;
    }

    private Segment lastSegment() {
        return segments.get(segments.size() - 1);
    }

    private List<Integer> row() {
        List<Integer> all = new ArrayList<>();
        for (Segment s : segments) {
            all.addAll(s.bytes);
        }
        return all;
    }

    int encode(int context, int bit) {
        if (context < 0 || context >= contexts) {
            throw new IndexOutOfBoundsException();
        }
        if (decoding) {
            throw new IllegalStateException();
        }
        if (bit < 0 || bit > 1) {
            throw new IllegalArgumentException();
        }
        put(own[0][context], bit);
        return row().size();
    }

    private void put(Context x, int bit) {
        Segment s = lastSegment();
        if (s.raw) {
            s.bits += bit;
            boolean behindFull = !s.bytes.isEmpty() && s.bytes.get(s.bytes.size() - 1) == 255;
            if (s.bits.length() == (behindFull ? 7 : 8)) {
                s.bytes.add(Integer.parseInt(s.bits, 2));
                s.bits = "";
            }
            return;
        }
        long q = x.q();
        a -= q;
        if (bit == x.likely) {
            if (a >= 0x8000) {
                c += q;
            } else {
                if (a < q) {
                    a = q;
                } else {
                    c += q;
                }
                x.behindLikely();
                renew();
            }
        } else {
            if (a < q) {
                c += q;
            } else {
                a = q;
            }
            x.behindOther();
            renew();
        }
    }

    private void renew() {
        do {
            a *= 2;
            c *= 2;
            t--;
            if (t == 0) {
                putOut();
            }
        } while (a < 0x8000);
    }

    private void putOut() {
        List<Integer> bytes = lastSegment().bytes;
        int at = bytes.size() - 1;
        int b = at < 0 ? -1 : bytes.get(at);
        if (b != 255 && c >= (1L << 27)) {
            if (at < 0) {
                throw new AssertionError("a carry with the first byte");
            }
            b++;
            bytes.set(at, b);
            if (b == 255) {
                c %= 1L << 27;
            }
        }
        if (b == 255) {
            bytes.add(aByte(c / (1L << 20)));
            c %= 1L << 20;
            t = 7;
        } else {
            bytes.add((int) (c / (1L << 19) % 256));
            c %= 1L << 19;
            t = 8;
        }
    }

    private static int aByte(long x) {
        if (x < 0 || x > 255) {
            throw new AssertionError("no byte: " + x);
        }
        return (int) x;
    }

    private void endSegment() {
        Segment s = lastSegment();
        if (s.raw) {
            for (int k = 0; !s.bits.isEmpty(); k++) {
                put(null, k % 2);
            }
        } else {
            long d = c + a;
            c = c / 65536 * 65536 + 65535;
            if (c >= d) {
                c -= 0x8000;
            }
            c <<= t;
            putOut();
            c <<= t;
            putOut();
        }
        int at = s.bytes.size() - 1;
        if (at >= 0 && s.bytes.get(at) == 255) {
            s.bytes.remove(at);
        }
    }

    int finish() {
        if (decoding) {
            throw new IllegalStateException();
        }
        endSegment();
        decoding = true;
        open(0);
        return row().size();
    }

    private void open(int number) {
        segment = number;
        taken = 0;
        rawBits = "";
        read = false;
    }

    int byteAt(int i) {
        List<Integer> all = row();
        if (i < 0 || i >= all.size()) {
            throw new IndexOutOfBoundsException();
        }
        return all.get(i);
    }

    boolean feed(int b) {
        if (!decoding || read || segment > 0) {
            throw new IllegalStateException();
        }
        if (b < 0 || b > 255) {
            throw new IllegalArgumentException();
        }
        if (row().size() >= 4000) {
            return false;
        }
        lastSegment().bytes.add(b);
        return true;
    }

    int decode(int context) {
        if (context < 0 || context >= contexts) {
            throw new IndexOutOfBoundsException();
        }
        if (!decoding) {
            throw new IllegalStateException();
        }
        return get(own[1][context]);
    }

    private int segmentByte(int i) {
        List<Integer> bytes = segments.get(segment).bytes;
        return i < bytes.size() ? bytes.get(i) : 255;
    }

    private int get(Context x) {
        boolean first = !read;
        read = true;
        if (segments.get(segment).raw) {
            if (rawBits.isEmpty()) {
                int b = segmentByte(taken) + 256;
                boolean behindFull = taken > 0 && segmentByte(taken - 1) == 255;
                rawBits = Integer.toBinaryString(b).substring(behindFull ? 2 : 1);
                taken++;
            }
            int bit = rawBits.charAt(0) - '0';
            rawBits = rawBits.substring(1);
            return bit;
        }
        if (first) {
            c = segmentByte(0) * 65536L;
            taken = 1;
            take();
            c = (c << 7) % (1L << 32);
            t -= 7;
            a = 0x8000;
        }
        return getCoded(x);
    }

    private int getCoded(Context x) {
        long q = x.q();
        int likely = x.likely;
        a -= q;
        boolean isLikely;
        if (c / 65536 < q) {
            isLikely = a < q;
            a = q;
        } else {
            c -= q * 65536;
            if (a >= 0x8000) {
                return likely;
            }
            isLikely = a >= q;
        }
        if (isLikely) {
            x.behindLikely();
        } else {
            x.behindOther();
        }
        do {
            if (t == 0) {
                take();
            }
            a *= 2;
            c = c * 2 % (1L << 32);
            t--;
        } while (a < 0x8000);
        return isLikely ? likely : 1 - likely;
    }

    private void take() {
        int next = segmentByte(taken);
        long more;
        if (segmentByte(taken - 1) == 255) {
            if (next > 0x8f) {
                more = 0xff00;
                t = 8;
            } else {
                taken++;
                more = 512L * next;
                t = 7;
            }
        } else {
            taken++;
            more = 256L * next;
            t = 8;
        }
        c = (c + more) % (1L << 32);
    }

    int state(int side, int context) {
        if (side < 0 || side > 1 || context < 0 || context >= contexts) {
            throw new IndexOutOfBoundsException();
        }
        return 2 * own[side][context].state + own[side][context].likely;
    }

    private static int longer(int p, int bit) {
        int twice = 2 * p + bit;
        return twice >= 512 ? twice % 256 + 256 : twice;
    }

    int whole(int set, int v) {
        if (set < 0 || set > 7) {
            throw new IndexOutOfBoundsException();
        }
        if (decoding) {
            throw new IllegalStateException();
        }
        String bits = wholeBits(v);
        int p = 1;
        for (char bit : bits.toCharArray()) {
            put(sets[0][set * 512 + p], bit - '0');
            p = longer(p, bit - '0');
        }
        return bits.length();
    }

    static String wholeBits(int v) {
        long z = v == Integer.MIN_VALUE ? 0 : Math.abs((long) v);
        String sign = v < 0 ? "1" : "0";
        if (z <= 3) {
            return sign + "0" + inBits(z, 2);
        }
        if (z <= 19) {
            return sign + "10" + inBits(z - 4, 4);
        }
        if (z <= 83) {
            return sign + "110" + inBits(z - 20, 6);
        }
        if (z <= 339) {
            return sign + "1110" + inBits(z - 84, 8);
        }
        if (z <= 4435) {
            return sign + "11110" + inBits(z - 340, 12);
        }
        return sign + "11111" + inBits(z - 4436, 32);
    }

    private static String inBits(long z, int length) {
        return Long.toBinaryString(z + (1L << length)).substring(1);
    }

    private int path;

    private long getBits(int set, int length) {
        long number = 0;
        for (int k = 0; k < length; k++) {
            int bit = get(sets[1][set * 512 + path]);
            path = longer(path, bit);
            number = 2 * number + bit;
        }
        return number;
    }

    int readWhole(int set) {
        if (set < 0 || set > 7) {
            throw new IndexOutOfBoundsException();
        }
        if (!decoding) {
            throw new IllegalStateException();
        }
        path = 1;
        boolean below = getBits(set, 1) == 1;
        int z;
        if (getBits(set, 1) == 0) {
            z = (int) getBits(set, 2);
        } else if (getBits(set, 1) == 0) {
            z = (int) getBits(set, 4) + 4;
        } else if (getBits(set, 1) == 0) {
            z = (int) getBits(set, 6) + 20;
        } else if (getBits(set, 1) == 0) {
            z = (int) getBits(set, 8) + 84;
        } else if (getBits(set, 1) == 0) {
            z = (int) getBits(set, 12) + 340;
        } else {
            z = (int) getBits(set, 32) + 4436;
        }
        return below && z == 0 ? Integer.MIN_VALUE : below ? -z : z;
    }

    int save() {
        if (saved.size() == 6) {
            throw new IllegalStateException();
        }
        int[] copy = new int[contexts];
        for (int i = 0; i < contexts; i++) {
            copy[i] = state(decoding ? 1 : 0, i);
        }
        saved.add(copy);
        return saved.size() - 1;
    }

    boolean back(int number) {
        if (number < 0 || number >= saved.size()) {
            return false;
        }
        for (int i = 0; i < contexts; i++) {
            Context x = own[decoding ? 1 : 0][i];
            x.state = saved.get(number)[i] / 2;
            x.likely = saved.get(number)[i] % 2;
        }
        return true;
    }

    boolean raw(boolean on) {
        if (!decoding) {
            if (lastSegment().raw == on) {
                return false;
            }
            endSegment();
            begin(on);
            return true;
        }
        if (segment + 1 >= segments.size() || segments.get(segment + 1).raw != on) {
            return false;
        }
        open(segment + 1);
        return true;
    }

    int beyond() {
        return decoding ? Math.max(0, taken - segments.get(segment).bytes.size()) : 0;
    }
}
