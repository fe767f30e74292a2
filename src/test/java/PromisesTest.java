/** Each promise: ordinary inputs, the edges that the document names, wrong inputs, and that these change nothing. */
public final class PromisesTest {
    private static void due(String what, Object got, Object want) {
        Check.due(what, got, want);
    }

    private static void promise1() {
        int[][] madeAndDue = {
            {1, 1}, {2, 2}, {65536, 65536}, {65535, 65535}, {65537, 65536}, {Integer.MAX_VALUE, 65536},
            {0, 1}, {-1, 1}, {Integer.MIN_VALUE, 1}};
        for (int[] pair : madeAndDue) {
            ArithmeticRows x = new ArithmeticRows(pair[0]);
            String made = "new(" + pair[0] + ") ";
            due(made + "state(0, last)", x.state(0, pair[1] - 1), 0);
            due(made + "state(1, last)", x.state(1, pair[1] - 1), 0);
            Check.noContext(made + "state(0, last + 1)", () -> x.state(0, pair[1]));
            Check.noContext(made + "byteAt(0)", () -> x.byteAt(0));
            Check.notNow(made + "decode(0)", () -> x.decode(0));
            due(made + "encode(last, 1)", x.encode(pair[1] - 1, 1), 0);
            due(made + "finish()", x.finish() > 0, true);
            due(made + "decode(last)", x.decode(pair[1] - 1), 1);
        }
    }

    private static void promise2() {
        ArithmeticRows x = new ArithmeticRows(3);
        due("encode(0, 1)", x.encode(0, 1), 0);
        due("state behind the other bit", x.state(0, 0), 2 * 1 + 1);
        due("encode(1, 0)", x.encode(1, 0), 0);
        due("state behind the likely bit", x.state(0, 1), 2);
        due("another context stays", x.state(0, 2), 0);
        Check.noContext("encode(3, 0)", () -> x.encode(3, 0));
        Check.noContext("encode(-1, 2)", () -> x.encode(-1, 2));
        Check.noContext("encode(least, 0)", () -> x.encode(Integer.MIN_VALUE, 0));
        Check.noNumber("encode(0, 2)", () -> x.encode(0, 2));
        Check.noNumber("encode(0, -1)", () -> x.encode(0, -1));
        due("nothing changed", x.state(0, 0), 3);
        x.raw(true);
        Check.noContext("raw encode(3, 0)", () -> x.encode(3, 0));
        Check.noNumber("raw encode(0, 2)", () -> x.encode(0, 2));
        int before = x.encode(0, 1);
        for (int i = 0; i < 6; i++) {
            due("raw encode before a full byte", x.encode(0, 0), before);
        }
        due("raw encode with a full byte", x.encode(0, 0), before + 1);
        due("raw leaves the context", x.state(0, 0), 3);
        x.finish();
        Check.noContext("decoding encode(3, 2)", () -> x.encode(3, 2));
        Check.notNow("decoding encode(0, 2)", () -> x.encode(0, 2));
        Check.notNow("decoding encode(0, 0)", () -> x.encode(0, 0));
    }

    /** With a carry: a byte that was put out is 1 more later. */
    private static void carries() {
        boolean seen = false;
        boolean seenFull = false;
        for (int seed = 0; seed < 4000; seed++) {
            java.util.Random chance = new java.util.Random(seed);
            ArithmeticRows x = new ArithmeticRows(1);
            int count = 0;
            int last = 0;
            for (int k = 0; k < 200; k++) {
                int now = x.encode(0, chance.nextInt(3) == 0 ? 1 : 0);
                if (count > 0 && now > count && x.byteAt(count - 1) != last) {
                    seen = true;
                    seenFull |= last == 0xfe;
                    due("a carry", x.byteAt(count - 1), last + 1);
                }
                count = now;
                last = count > 0 ? x.byteAt(count - 1) : 0;
            }
        }
        due("a carry was met", seen, true);
        due("a carry that gives ff was met", seenFull, true);
    }

    private static void promise3() {
        ArithmeticRows x = new ArithmeticRows(1);
        due("finish() of nothing", x.finish(), 2);
        due("its bytes", Play.bytes(x, 0, 2), "ff7f");
        Check.notNow("finish() again", x::finish);
        due("its bytes again", Play.bytes(x, 0, 2), "ff7f");
        Check.noContext("byteAt(2)", () -> x.byteAt(2));
        ArithmeticRows y = Play.coded(1, "AaA");
        y.raw(true);
        y.encode(0, 0);
        y.encode(0, 1);
        y.finish();
        due("it reads from the first segment on", Play.readBits(y, 3), "101");
        due("and the next one", y.raw(true), true);
        due("raw bits", Play.readBits(y, 2), "01");
        ArithmeticRows z = Play.rawBits("");
        due("an empty raw segment", z.finish(), 2);
        due("a last byte ff goes", Play.rawBits("11111111").finish(), 2);
        due("with a byte before it", Play.rawBits("0000000011111111").finish(), 3);
    }

    /** A coded segment whose last byte would be ff loses it. */
    private static void codedEndings() {
        boolean seen = false;
        for (int seed = 0; seed < 400; seed++) {
            java.util.Random chance = new java.util.Random(seed);
            ArithmeticRows x = new ArithmeticRows(1);
            int put = 0;
            for (int k = 0; k < 40 + seed % 20; k++) {
                put = x.encode(0, chance.nextInt(2));
            }
            int all = x.finish();
            seen |= all == put + 1;
            due("one or two bytes more", all == put + 1 || all == put + 2, true);
            due("none is ff at the end", x.byteAt(all - 1) != 0xff, true);
        }
        due("an ending with a byte gone was met", seen, true);
    }

    private static void promise4() {
        ArithmeticRows x = Play.rawBits("101010101111");
        due("the coded segment's bytes, and the full one", Play.bytes(x, 0, 3), "ff7faa");
        Check.noContext("a byte that is begun", () -> x.byteAt(3));
        Check.noContext("byteAt(-1)", () -> x.byteAt(-1));
        Check.noContext("byteAt(least)", () -> x.byteAt(Integer.MIN_VALUE));
        Check.noContext("byteAt(greatest)", () -> x.byteAt(Integer.MAX_VALUE));
        due("finish()", x.finish(), 4);
        due("it is filled with 0, 1 ..", Play.bytes(x, 0, 4), "ff7faaf5");
        Check.noContext("byteAt(4)", () -> x.byteAt(4));
        x.feed(9);
        due("a byte that was fed", x.byteAt(4), 9);
        Check.noContext("byteAt(5)", () -> x.byteAt(5));
    }

    private static void promise5() {
        ArithmeticRows x = new ArithmeticRows(2);
        Check.notNow("encoding feed(1)", () -> x.feed(1));
        Check.notNow("encoding feed(256)", () -> x.feed(256));
        due("finish()", x.finish(), 2);
        Check.noNumber("feed(256)", () -> x.feed(256));
        Check.noNumber("feed(-1)", () -> x.feed(-1));
        Check.noNumber("feed(least)", () -> x.feed(Integer.MIN_VALUE));
        due("feed(0)", x.feed(0), true);
        due("feed(255)", x.feed(255), true);
        due("the row", Play.bytes(x, 0, 4), "ff7f00ff");
        Check.noContext("a call that throws reads nothing", () -> x.decode(2));
        due("raw(true) goes nowhere", x.raw(true), false);
        due("feed(7)", x.feed(7), true);
        x.decode(0);
        Check.notNow("read: feed(1)", () -> x.feed(1));
        Check.notNow("read: feed(300)", () -> x.feed(300));
        ArithmeticRows y = Play.rawBits("1");
        y.finish();
        due("feed behind the last segment", y.feed(0xc3), true);
        due("raw(true)", y.raw(true), true);
        Check.notNow("left: feed(1)", () -> y.feed(1));
        due("the last segment has it", Play.readBits(y, 16), "1010101011000011");
        due("and no more", y.beyond(), 0);
        ArithmeticRows z = new ArithmeticRows(1);
        z.finish();
        z.readWhole(0);
        Check.notNow("a whole number read: feed(1)", () -> z.feed(1));
    }

    /** It takes more than 512 calls to get there, which is free; the class keeps to the promise there too. */
    private static void fullRow() {
        ArithmeticRows x = new ArithmeticRows(1);
        x.finish();
        for (int i = 2; i < 4000; i++) {
            due("feed, row of " + i, x.feed(i & 0xff), true);
        }
        due("feed, row of 4000", x.feed(1), false);
        Check.noNumber("feed(256), row of 4000", () -> x.feed(256));
        due("byteAt(3999)", x.byteAt(3999), 3999 & 0xff);
        Check.noContext("byteAt(4000)", () -> x.byteAt(4000));
    }

    private static void promise6() {
        ArithmeticRows x = Play.coded(2, "AAaAaaaA");
        Check.notNow("encoding decode(0)", () -> x.decode(0));
        Check.noContext("encoding decode(2)", () -> x.decode(2));
        int all = x.finish();
        Check.noContext("decode(2)", () -> x.decode(2));
        Check.noContext("decode(-1)", () -> x.decode(-1));
        due("the bits", Play.readBits(x, 8), "11010001");
        due("the decoder's state is the encoder's", x.state(1, 0), x.state(0, 0));
        for (int i = 0; i < 100; i++) {
            int bit = x.decode(1);
            due("a bit past the end", bit == 0 || bit == 1, true);
        }
        due("all bytes stay", x.byteAt(all - 1) >= 0, true);
        ArithmeticRows y = Play.rawBits("");
        y.finish();
        y.raw(true);
        due("raw bits past the end", Play.readBits(y, 20), "11111111111111111111");
        ArithmeticRows z = Play.rawBits("1111111101");
        z.finish();
        z.raw(true);
        Check.noContext("raw decode(1)", () -> z.decode(1));
        due("a bit 0 is left out behind ff", Play.readBits(z, 15), "111111110101010");
        due("raw leaves the context", z.state(1, 0), 0);
        // Fed bytes behind ff lose their highest bit even if it is 1.
        ArithmeticRows w = Play.rawBits("");
        w.finish();
        w.feed(0xff);
        w.feed(0x80);
        w.feed(0x81);
        w.raw(true);
        due("fed raw bits", Play.readBits(w, 23), "11111111000000010000001");
    }

    private static void promise7() {
        ArithmeticRows x = new ArithmeticRows(2);
        int[] likely = {2, 4, 6};
        for (int want : likely) {
            for (int k = 0; k < 100 && x.state(0, 0) != want; k++) {
                x.encode(0, 0);
            }
            due("state(0, 0)", x.state(0, 0), want);
        }
        due("state(0, 1)", x.state(0, 1), 0);
        due("state(1, 0)", x.state(1, 0), 0);
        x.encode(0, 1);
        due("behind the other bit, from 3", x.state(0, 0), 24);
        x.encode(1, 1);
        due("the likely bit is the other one, from 0", x.state(0, 1), 3);
        Check.noContext("state(-1, 0)", () -> x.state(-1, 0));
        Check.noContext("state(2, 0)", () -> x.state(2, 0));
        Check.noContext("state(0, 2)", () -> x.state(0, 2));
        Check.noContext("state(1, 2)", () -> x.state(1, 2));
        Check.noContext("state(0, -1)", () -> x.state(0, -1));
        x.finish();
        due("the encoder's stays", x.state(0, 0), 24);
        x.decode(0);
        due("the decoder's moves", x.state(1, 0), 2);
        due("the encoder's does not", x.state(0, 0), 24);
    }

    private static final int[] SIZES = {
        0, 1, 2, 3, 4, 5, 18, 19, 20, 21, 82, 83, 84, 85, 338, 339, 340, 341, 4434, 4435, 4436, 4437, 100000,
        Integer.MAX_VALUE - 1, Integer.MAX_VALUE};

    private static int bitsOf(int size) {
        return size < 4 ? 4 : size < 20 ? 7 : size < 84 ? 10 : size < 340 ? 13 : size < 4436 ? 18 : 38;
    }

    private static void promise8() {
        ArithmeticRows x = new ArithmeticRows(1);
        for (int size : SIZES) {
            due("whole(0, " + size + ")", x.whole(0, size), bitsOf(size));
            due("whole(7, " + -size + ")", x.whole(7, -size), bitsOf(size));
        }
        due("whole(3, least)", x.whole(3, Integer.MIN_VALUE), 4);
        due("sets have contexts of their own", x.state(0, 0), 0);
        Check.noContext("whole(8, 0)", () -> x.whole(8, 0));
        Check.noContext("whole(-1, 0)", () -> x.whole(-1, 0));
        x.finish();
        Check.noContext("decoding whole(8, 0)", () -> x.whole(8, 0));
        Check.notNow("decoding whole(0, 0)", () -> x.whole(0, 0));
        // The bits themselves, as raw ones tell them.
        int[] numbers = {-3, 7, -25, 100, 1000, -70000, Integer.MIN_VALUE, Integer.MAX_VALUE};
        for (int v : numbers) {
            ArithmeticRows y = new ArithmeticRows(1);
            y.raw(true);
            String bits = Model.wholeBits(v);
            due("raw whole(0, " + v + ")", y.whole(0, v), bits.length());
            y.finish();
            y.raw(true);
            due("bits of " + v, Play.readBits(y, bits.length()), bits);
        }
        ArithmeticRows z = new ArithmeticRows(1);
        z.raw(true);
        z.whole(0, -3);
        z.whole(0, 5);
        z.finish();
        z.raw(true);
        due("bits of -3 and 5", Play.readBits(z, 11), "1011" + "0100001");
    }

    private static void promise9() {
        ArithmeticRows x = new ArithmeticRows(1);
        Check.notNow("encoding readWhole(0)", () -> x.readWhole(0));
        Check.noContext("encoding readWhole(8)", () -> x.readWhole(8));
        for (int size : SIZES) {
            x.whole(size & 7, size);
            x.whole(size & 3, -size);
            x.whole(5, Integer.MIN_VALUE);
        }
        x.finish();
        Check.noContext("readWhole(8)", () -> x.readWhole(8));
        Check.noContext("readWhole(-1)", () -> x.readWhole(-1));
        for (int size : SIZES) {
            due("readWhole of " + size, x.readWhole(size & 7), size);
            due("readWhole of " + -size, x.readWhole(size & 3), -size);
            due("readWhole out of band", x.readWhole(5), ArithmeticRows.OUT_OF_BAND);
        }
        due("its own contexts stay", x.state(1, 0), 0);
    }

    private static int readRaw(String bits) {
        ArithmeticRows x = Play.rawBits(bits);
        x.finish();
        x.raw(true);
        return x.readWhole(0);
    }

    private static String in32(int number) {
        return Long.toBinaryString((number & 0xffffffffL) + (1L << 32)).substring(1);
    }

    private static void sizesThatRunOver() {
        due("size 2^31 - 1", readRaw("011111" + in32(Integer.MAX_VALUE - 4436)), Integer.MAX_VALUE);
        due("size 2^31", readRaw("011111" + in32(Integer.MAX_VALUE - 4435)), Integer.MIN_VALUE);
        due("below 0, size 2^31", readRaw("111111" + in32(Integer.MAX_VALUE - 4435)), Integer.MIN_VALUE);
        due("size 2^31 + 1", readRaw("011111" + in32(Integer.MAX_VALUE - 4434)), -Integer.MAX_VALUE);
        due("below 0, size 2^31 + 1", readRaw("111111" + in32(Integer.MAX_VALUE - 4434)), Integer.MAX_VALUE);
        due("size 2^32", readRaw("011111" + in32(-4436)), 0);
        due("below 0, size 2^32", readRaw("111111" + in32(-4436)), ArithmeticRows.OUT_OF_BAND);
        due("all ones", readRaw("111111" + in32(-1)), -4435);
        due("0, not below 0", readRaw("0000"), 0);
        due("0, below 0", readRaw("1000"), ArithmeticRows.OUT_OF_BAND);
    }

    private static void promise10And11() {
        ArithmeticRows x = new ArithmeticRows(2);
        due("back(0) of none", x.back(0), false);
        due("save()", x.save(), 0);
        x.encode(0, 1);
        x.encode(1, 0);
        x.whole(0, 5);
        due("save()", x.save(), 1);
        x.encode(0, 0);
        int later = x.state(0, 0);
        due("back(0)", x.back(0), true);
        due("context 0 as it was", x.state(0, 0), 0);
        due("context 1 as it was", x.state(0, 1), 0);
        due("back(1)", x.back(1), true);
        due("context 0 as it was then", x.state(0, 0), 3);
        due("context 1 as it was then", x.state(0, 1), 2);
        due("the row was at another place", later == 3, false);
        due("back(2)", x.back(2), false);
        due("back(-1)", x.back(-1), false);
        due("back(least)", x.back(Integer.MIN_VALUE), false);
        due("back(greatest)", x.back(Integer.MAX_VALUE), false);
        due("a false one changes nothing", x.state(0, 0), 3);
        x.encode(0, 1);
        x.finish();
        due("decoding save()", x.save(), 2);
        due("decoding back(1)", x.back(1), true);
        due("the decoder has the encoder's", x.state(1, 0), 3);
        due("the decoder has the encoder's", x.state(1, 1), 2);
        due("decoding back(2)", x.back(2), true);
        due("the decoder has its own", x.state(1, 0), 0);
        for (int k = 3; k < 6; k++) {
            due("save()", x.save(), k);
        }
        Check.notNow("a seventh save()", x::save);
        due("back(5)", x.back(5), true);
        due("back(6)", x.back(6), false);
        x.reset();
        due("back(0) behind reset", x.back(0), false);
        for (int k = 0; k < 6; k++) {
            due("save() behind reset", x.save(), k);
        }
        Check.notNow("a seventh save() behind reset", x::save);
    }

    /** Sets are not kept: the numbers behind back() are read with contexts that went on. */
    private static void setsStay() {
        ArithmeticRows x = new ArithmeticRows(1);
        ArithmeticRows y = new ArithmeticRows(1);
        x.save();
        for (int k = 0; k < 60; k++) {
            x.whole(0, 1234);
            y.whole(0, 1234);
            x.back(0);
        }
        int all = x.finish();
        due("as many bytes", all, y.finish());
        due("the same bytes", Play.bytes(x, 0, all), Play.bytes(y, 0, all));
        for (int k = 0; k < 60; k++) {
            x.back(0);
            due("readWhole(0)", x.readWhole(0), 1234);
        }
    }

    /** What is kept is a copy: later bits leave it, and it may be taken up twice. */
    private static void keptIsACopy() {
        ArithmeticRows x = new ArithmeticRows(65536);
        x.encode(65535, 1);
        x.save();
        for (int k = 0; k < 2; k++) {
            x.encode(65535, 1);
            x.encode(65535, 1);
            due("it went on", x.state(0, 65535) == 3, false);
            x.back(0);
            due("it is as kept", x.state(0, 65535), 3);
            due("and the others", x.state(0, 0), 0);
        }
    }

    private static void promise12() {
        ArithmeticRows x = new ArithmeticRows(1);
        due("raw(false) at first", x.raw(false), false);
        x.encode(0, 1);
        int was = x.state(0, 0);
        due("raw(true)", x.raw(true), true);
        due("contexts stay", x.state(0, 0), was);
        due("raw(true) again", x.raw(true), false);
        x.encode(0, 1);
        due("raw(false)", x.raw(false), true);
        due("contexts stay", x.state(0, 0), was);
        x.encode(0, 1);
        due("raw(true)", x.raw(true), true);
        due("raw(false)", x.raw(false), true);
        x.encode(0, 0);
        x.finish();
        due("the next one is not coded", x.raw(false), false);
        due("the first bit", x.decode(0), 1);
        due("to raw", x.raw(true), true);
        due("contexts stay", x.state(1, 0), was);
        due("a raw bit", x.decode(0), 1);
        due("the next one is not raw", x.raw(true), false);
        due("the next raw bits", Play.readBits(x, 3), "010");
        due("to coded", x.raw(false), true);
        due("its bit", x.decode(0), 1);
        due("to raw", x.raw(true), true);
        due("to coded, with nothing read", x.raw(false), true);
        due("the last bit", x.decode(0), 0);
        due("there is none", x.raw(true), false);
        due("there is none", x.raw(false), false);
        due("the states", x.state(1, 0), x.state(0, 0));
    }

    /** As many segments as calls can make: 511, and finish. */
    private static void manySegments() {
        ArithmeticRows x = new ArithmeticRows(1);
        for (int k = 1; k <= 511; k++) {
            due("raw, call " + k, x.raw(k % 2 == 1), true);
        }
        due("finish()", x.finish(), 512);
        due("the last bytes", Play.bytes(x, 508, 512), "ff7fff7f");
        for (int k = 1; k <= 511; k++) {
            due("decoding raw, call " + k, x.raw(k % 2 == 1), true);
        }
        due("there is none", x.raw(false), false);
    }

    private static void promise13() {
        ArithmeticRows x = Play.coded(1, "aAA");
        due("encoding beyond()", x.beyond(), 0);
        x.raw(true);
        x.finish();
        due("nothing is taken", x.beyond(), 0);
        for (int k = 0; k < 200; k++) {
            x.decode(0);
        }
        due("a coded segment: one, and no more behind ff", x.beyond(), 1);
        x.raw(true);
        due("another segment", x.beyond(), 0);
        int[] due = {1, 1, 1, 1, 1, 1, 1, 1, 2, 2, 2, 2, 2, 2, 2, 3};
        for (int k = 0; k < due.length; k++) {
            x.decode(0);
            due("raw beyond() behind bit " + (k + 1), x.beyond(), due[k]);
        }
        x.reset();
        due("behind reset", x.beyond(), 0);
        ArithmeticRows y = new ArithmeticRows(1);
        y.finish();
        y.feed(0);
        y.feed(0xff);
        for (int k = 0; k < 200; k++) {
            y.decode(0);
        }
        due("none behind an ff of its own", y.beyond(), 0);
        ArithmeticRows z = Play.rawBits("11110000");
        z.finish();
        z.raw(true);
        Play.readBits(z, 8);
        due("raw, all of its own", z.beyond(), 0);
        z.decode(0);
        due("raw, one more", z.beyond(), 1);
    }

    private static void promise14() {
        ArithmeticRows x = Play.coded(2, "AaAA");
        x.whole(0, 77);
        x.save();
        x.raw(true);
        x.encode(0, 1);
        x.reset();
        asMade(x);
        x.finish();
        x.decode(1);
        x.readWhole(0);
        x.reset();
        asMade(x);
        x.reset();
        x.reset();
        asMade(x);
    }

    private static void asMade(ArithmeticRows x) {
        Check.noContext("reset: byteAt(0)", () -> x.byteAt(0));
        Check.notNow("reset: decode(0)", () -> x.decode(0));
        due("reset: raw(false)", x.raw(false), false);
        due("reset: back(0)", x.back(0), false);
        due("reset: beyond()", x.beyond(), 0);
        due("reset: state(0, 0)", x.state(0, 0), 0);
        due("reset: state(1, 1)", x.state(1, 1), 0);
        Check.noContext("reset: state(0, 2)", () -> x.state(0, 2));
        ArithmeticRows fresh = new ArithmeticRows(2);
        for (int k = 0; k < 30; k++) {
            due("reset: encode", x.encode(k & 1, k % 3 & 1), fresh.encode(k & 1, k % 3 & 1));
            due("reset: whole", x.whole(0, 77), fresh.whole(0, 77));
        }
        int all = fresh.finish();
        due("reset: finish()", x.finish(), all);
        due("reset: the bytes", Play.bytes(x, 0, all), Play.bytes(fresh, 0, all));
        for (int k = 0; k < 30; k++) {
            due("reset: decode", x.decode(k & 1), k % 3 & 1);
            due("reset: readWhole", x.readWhole(0), 77);
        }
        due("reset: no second segment", x.raw(true), false);
        x.reset();
    }

    public static void main(String[] args) {
        promise1();
        promise2();
        carries();
        promise3();
        codedEndings();
        promise4();
        promise5();
        fullRow();
        promise6();
        promise7();
        promise8();
        promise9();
        sizesThatRunOver();
        promise10And11();
        setsStay();
        keptIsACopy();
        promise12();
        manySegments();
        promise13();
        promise14();
        Check.end();
    }
}
