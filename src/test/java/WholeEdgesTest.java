/** The boundary cases of WHOLE numbers (promises 8 and 9), a method each. */
public final class WholeEdgesTest {
    private static final int LEAST = Integer.MIN_VALUE;
    private static final int LARGEST = Integer.MAX_VALUE;
    private static final String ZEROS_12 = "000000000000";
    private static final String ONES_12 = "111111111111";
    private static final String ZEROS_32 = "00000000000000000000000000000000";
    // 2^31 - 1 - 4436.
    private static final String LARGEST_32 = "01111111111111111110111010101011";

    /** The ends of each kind of size: the bits behind the first one. */
    private static final Object[][] ENDS = {
        {1, "0" + "01"}, {3, "0" + "11"},
        {4, "10" + "0000"}, {19, "10" + "1111"},
        {20, "110" + "000000"}, {83, "110" + "111111"},
        {84, "1110" + "00000000"}, {339, "1110" + "11111111"},
        {340, "11110" + ZEROS_12}, {4435, "11110" + ONES_12},
        {4436, "11111" + ZEROS_32}, {LARGEST, "11111" + LARGEST_32}};

    private static void due(String what, Object got, Object want) {
        Check.due(what, got, want);
    }

    /** The bits themselves, told by a raw segment, and the same bits read. */
    private static void toldAs(int v, String bits) {
        ArithmeticRows x = new ArithmeticRows(1);
        x.raw(true);
        due("raw: how many bits " + v + " took", x.whole(0, v), bits.length());
        x.finish();
        x.raw(true);
        due("raw: the bits of " + v, Play.readBits(x, bits.length()), bits);
        due("raw: " + v + " read", Play.rawToRead(bits).readWhole(0), v);
        ArithmeticRows y = new ArithmeticRows(1);
        due("coded: how many bits " + v + " took", y.whole(0, v), bits.length());
        y.finish();
        due("coded: " + v + " read", y.readWhole(0), v);
    }

    private static void endsOfEachKind() {
        for (Object[] end : ENDS) {
            toldAs((Integer) end[0], "0" + end[1]);
            toldAs(-(Integer) end[0], "1" + end[1]);
        }
    }

    private static void zero() {
        toldAs(0, "0" + "0" + "00");
    }

    /** "The least int stands for OUT OF BAND: it is told as below 0 and of size 0." */
    private static void outOfBand() {
        due("OUT_OF_BAND", ArithmeticRows.OUT_OF_BAND, LEAST);
        toldAs(LEAST, "1" + "0" + "00");
    }

    /** All ends in one coded row, each set with its own. */
    private static void endsInOneRow() {
        ArithmeticRows x = new ArithmeticRows(1);
        for (int k = 0; k < ENDS.length; k++) {
            x.whole(k % 8, (Integer) ENDS[k][0]);
            x.whole((k + 5) % 8, -(Integer) ENDS[k][0]);
            x.whole(k % 3, LEAST);
        }
        x.finish();
        for (int k = 0; k < ENDS.length; k++) {
            due("one row: " + ENDS[k][0], x.readWhole(k % 8), ENDS[k][0]);
            due("one row: the same below 0", x.readWhole((k + 5) % 8), -(Integer) ENDS[k][0]);
            due("one row: out of band", x.readWhole(k % 3), LEAST);
        }
    }

    private static String in32(long number) {
        return Long.toBinaryString((number & 0xffffffffL) | 1L << 32).substring(1);
    }

    private static void size(long size, int above, int below) {
        due("size " + size, Play.rawToRead("011111" + in32(size - 4436)).readWhole(0), above);
        due("size " + size + " below 0", Play.rawToRead("111111" + in32(size - 4436)).readWhole(0), below);
    }

    /** "Reading: sizes run over as ints do". */
    private static void sizesThatRunOver() {
        size(0x7fffffffL, LARGEST, -LARGEST);
        size(0x80000000L, LEAST, LEAST);
        size(0x80000001L, -LARGEST, LARGEST);
        size(0xffffffffL, -1, 1);
        size(0x100000001L, 1, -1);
        due("all 32 bits 1", Play.rawToRead("011111" + "1".repeat(32)).readWhole(0), 4435);
        due("all 32 bits 1, below 0", Play.rawToRead("111111" + "1".repeat(32)).readWhole(0), -4435);
    }

    /** "below 0 and 0 is out of band", however the size came to be 0. */
    private static void zeroBelowZero() {
        due("0 below 0", Play.rawToRead("1000").readWhole(0), LEAST);
        size(0x100000000L, 0, LEAST);
    }

    /** Past the end all raw bits are 1: below 0, of the last kind, all ones. */
    private static void readPastTheEnd() {
        ArithmeticRows x = Play.rawToRead("");
        due("past the end", x.readWhole(0), -4435);
        due("past the end: 38 bits in bytes of 8, 7, 7, 7, 7 and 2", x.beyond(), 6);
    }

    /** P before each bit of 4436: it becomes 512 at the end of that, and 256 again; 760 becomes 504. */
    private static void pathOf4436() {
        int[] path = {1, 2, 5, 11, 23, 47, 95, 190, 380, 504, 496, 480, 448, 384, 256};
        int[] all = new int[38];
        for (int k = 0; k < all.length; k++) {
            all[k] = path[Math.min(k, path.length - 1)];
        }
        sameAsWithOwnContexts("P of 4436", 4436, "0" + "11111" + ZEROS_32, all);
    }

    /** P is 511 where eight bits 1 stand in a row, and 511 again behind one more. */
    private static void pathOfManyOnes() {
        int[] path = {
            1, 2, 5, 11, 23, 47, 95, 190, 381, 507, 503, 495, 479, 447, 383, 511, 511, 511, 511, 511, 511, 511, 511,
            511, 511, 511, 510, 509, 507, 503, 494, 477, 442, 373, 490, 469, 426, 341};
        sameAsWithOwnContexts("P of the largest", LARGEST, "0" + "11111" + LARGEST_32, path);
    }

    /** "P, at first 1": behind seven bits it is 190, not what it is where the same seven come again. */
    private static void pathAtFirst() {
        String size = "01" + "00111110" + "00111110" + "00111110" + "001111";
        int[] path = {
            1, 2, 5, 11, 23, 47, 95, 190, 381, 506, 500, 489, 467, 423, 335, 415, 318, 380, 504, 497, 483, 455,
            399, 287, 318, 380, 504, 497, 483, 455, 399, 287, 318, 380, 504, 497, 483, 455};
        sameAsWithOwnContexts("P at first", Integer.parseInt(size, 2) + 4436, "0" + "11111" + size, path);
    }

    /** What a set's contexts code is what own contexts with these numbers code, over and over again. */
    private static void sameAsWithOwnContexts(String what, int v, String bits, int[] path) {
        ArithmeticRows x = new ArithmeticRows(1);
        ArithmeticRows y = new ArithmeticRows(512);
        for (int times = 0; times < 10; times++) {
            x.whole(3, v);
            for (int k = 0; k < path.length; k++) {
                y.encode(path[k], bits.charAt(k) - '0');
            }
        }
        due(what + ": bytes", x.finish(), y.finish());
        due(what + ": the row", Play.row(x), Play.row(y));
        for (int times = 0; times < 10; times++) {
            due(what + ": read", x.readWhole(3), v);
        }
    }

    /** "SETS 0 .. 7 for whole numbers, each with contexts of its own", the first and last one too. */
    private static void setsOfTheirOwn() {
        ArithmeticRows x = new ArithmeticRows(1);
        ArithmeticRows y = new ArithmeticRows(8 * 512);
        for (int times = 0; times < 6; times++) {
            for (int set = 0; set < 8; set++) {
                int v = (set % 2 == 0 ? 1 : -1) * (7 * set + 2);
                x.whole(set, v);
                wholeWithOwn(y, set, v);
            }
        }
        due("sets: bytes", x.finish(), y.finish());
        due("sets: the row", Play.row(x), Play.row(y));
        due("sets: the encoder's own context stays", x.state(0, 0), 0);
        for (int times = 0; times < 6; times++) {
            for (int set = 0; set < 8; set++) {
                due("sets: read", x.readWhole(set), (set % 2 == 0 ? 1 : -1) * (7 * set + 2));
            }
        }
        due("sets: the decoder's own context stays", x.state(1, 0), 0);
    }

    private static void wholeWithOwn(ArithmeticRows y, int set, int v) {
        int path = 1;
        for (char bit : Model.wholeBits(v).toCharArray()) {
            y.encode(set * 512 + path, bit - '0');
            path = 2 * path + bit - '0';
            path = path > 511 ? 256 + path % 256 : path;
        }
    }

    public static void main(String[] args) {
        endsOfEachKind();
        zero();
        outOfBand();
        endsInOneRow();
        sizesThatRunOver();
        zeroBelowZero();
        readPastTheEnd();
        pathOf4436();
        pathOfManyOnes();
        pathAtFirst();
        setsOfTheirOwn();
        Check.end();
    }
}
