/** The boundary cases of objects, rows and segments (promises 1, 4, 5, 7 and 10 to 14), a method each. */
public final class RowEdgesTest {
    private static final int LEAST = Integer.MIN_VALUE;
    private static final int LARGEST = Integer.MAX_VALUE;

    private static void due(String what, Object got, Object want) {
        Check.due(what, got, want);
    }

    // Promise 1.

    private static void hasContexts(int made, int contexts) {
        ArithmeticRows x = new ArithmeticRows(made);
        String what = "made with " + made + ": ";
        for (int side = 0; side < 2; side++) {
            int at = side;
            due(what + "the last context", Check.of(() -> x.state(at, contexts - 1)), 0);
            Check.noContext(what + "one too far", () -> x.state(at, contexts));
        }
        Check.noContext(what + "encode, one too far", () -> x.encode(contexts, 0));
        due(what + "encode with the last one", Check.of(() -> x.encode(contexts - 1, 1)), 0);
        x.finish();
        Check.noContext(what + "decode, one too far", () -> x.decode(contexts));
        due(what + "decode with the last one", Check.of(() -> x.decode(contexts - 1)), 1);
    }

    private static void contextsFrom1To65536() {
        hasContexts(1, 1);
        hasContexts(2, 2);
        hasContexts(65535, 65535);
        hasContexts(65536, 65536);
    }

    private static void fewerThan1IsOne() {
        hasContexts(0, 1);
        hasContexts(-1, 1);
        hasContexts(LEAST, 1);
    }

    private static void moreThan65536IsThat() {
        hasContexts(65537, 65536);
        hasContexts(LARGEST, 65536);
    }

    // Promise 4.

    private static void noByteBeforeOneIsPutOut() {
        ArithmeticRows x = new ArithmeticRows(12);
        Check.noContext("byteAt(0) of a new one", () -> x.byteAt(0));
        for (int k = 0; k < 11; k++) {
            x.encode(k, 0);
            Check.noContext("byteAt(0), bits coded but none put out", () -> x.byteAt(0));
        }
        due("the first byte is put out", x.encode(11, 0), 1);
        due("byteAt(0)", Check.of(() -> x.byteAt(0)), 0xab);
        Check.noContext("byteAt(1)", () -> x.byteAt(1));
    }

    private static void rawByteThatIsBegunIsNone() {
        ArithmeticRows x = Play.rawBits("1111000");
        Check.noContext("a byte that is begun", () -> x.byteAt(2));
        due("encode that fills it", x.encode(0, 1), 3);
        due("a full byte", Check.of(() -> x.byteAt(2)), 0xf1);
        Check.noContext("the byte behind it", () -> x.byteAt(3));
    }

    private static void byteThatWentIsNone() {
        ArithmeticRows x = Play.rawBits("11111111");
        due("ff while it is there", Check.of(() -> x.byteAt(2)), 0xff);
        x.raw(false);
        Check.noContext("ff that went", () -> x.byteAt(2));
        due("bytes without it", x.encode(0, 0), 2);
    }

    private static void bytesThatAreFedAreOfTheRow() {
        ArithmeticRows x = new ArithmeticRows(1);
        x.finish();
        Check.noContext("before it is fed", () -> x.byteAt(2));
        x.feed(0x5a);
        due("behind that", Check.of(() -> x.byteAt(2)), 0x5a);
        Check.noContext("the one behind it", () -> x.byteAt(3));
    }

    // Promise 5.

    private static void feedFrom0To255() {
        ArithmeticRows x = new ArithmeticRows(1);
        x.finish();
        due("feed(0)", Check.of(() -> x.feed(0)), true);
        due("feed(255)", Check.of(() -> x.feed(255)), true);
        Check.noNumber("feed(-1)", () -> x.feed(-1));
        Check.noNumber("feed(256)", () -> x.feed(256));
        due("what was fed", Play.row(x), "ff7f00ff");
    }

    /** It takes more than 512 calls to get there, where all is free; the class keeps to its word there too. */
    private static void feedTo4000() {
        ArithmeticRows x = new ArithmeticRows(1);
        x.finish();
        for (int i = 2; i < 4000; i++) {
            due("feed with " + i, x.feed(0x11), true);
        }
        due("feed with 4000", Check.of(() -> x.feed(0x22)), false);
        Check.noNumber("feed(256) with 4000", () -> x.feed(256));
        due("the last one", x.byteAt(3999), 0x11);
        Check.noContext("none behind it", () -> x.byteAt(4000));
        x.decode(0);
        Check.notNow("read, with 4000", () -> x.feed(0x22));
    }

    /** What reads nothing leaves feeding open. */
    private static void lookingIsNotReading() {
        ArithmeticRows x = Play.coded(2, "aB");
        x.raw(true);
        x.finish();
        x.beyond();
        x.state(1, 0);
        x.byteAt(0);
        x.save();
        x.back(0);
        due("raw(false) goes nowhere", x.raw(false), false);
        Check.noContext("decode(2)", () -> x.decode(2));
        Check.noContext("readWhole(8)", () -> x.readWhole(8));
        due("feed", Check.of(() -> x.feed(1)), true);
    }

    private static void readingABitEndsFeeding() {
        ArithmeticRows x = new ArithmeticRows(1);
        x.finish();
        x.feed(1);
        x.decode(0);
        Check.notNow("a bit was read", () -> x.feed(1));
        due("a bit was read: the row", Play.row(x), "ff7f01");
    }

    private static void readingANumberEndsFeeding() {
        ArithmeticRows x = new ArithmeticRows(1);
        x.finish();
        x.readWhole(0);
        Check.notNow("a number was read", () -> x.feed(1));
        due("a number was read: the row", Play.row(x), "ff7f");
    }

    private static void leavingTheSegmentEndsFeeding() {
        ArithmeticRows x = Play.rawToRead("");
        Check.notNow("the segment was left", () -> x.feed(1));
        due("the segment was left: the row", Play.row(x), "ff7f");
    }

    /** "A byte comes behind the last segment": the first one does not get it. */
    private static void fedBytesAreTheLastSegments() {
        ArithmeticRows x = Play.coded(60, "a");
        x.raw(true);
        x.finish();
        Play.feed(x, 0x00, 0xc3);
        due("the first segment ends as before", Play.readRound(x, 60, 20), "00100000101111111001");
        due("one byte beyond it", x.beyond(), 1);
        x.raw(true);
        due("the last one has them", Play.readBits(x, 17), "00000000" + "11000011" + "1");
        due("one byte beyond that", x.beyond(), 1);
    }

    // Promise 7.

    private static void sidesAreTwo() {
        ArithmeticRows x = Play.coded(2, "A");
        due("side 0", Check.of(() -> x.state(0, 0)), 3);
        due("side 1", Check.of(() -> x.state(1, 0)), 0);
        int[] none = {-1, 2, 3, LEAST, LARGEST};
        for (int side : none) {
            Check.noContext("side " + side, () -> x.state(side, 0));
            Check.noContext("context " + side + " of side 0", () -> x.state(0, side));
            Check.noContext("context " + side + " of side 1", () -> x.state(1, side));
        }
    }

    /** Raw bits and whole numbers leave the contexts as they are, on both sides. */
    private static void statesStayWithoutBitsOfTheirOwn() {
        ArithmeticRows x = Play.coded(1, "AA");
        int was = x.state(0, 0);
        x.whole(0, 77);
        x.raw(true);
        x.encode(0, 0);
        x.encode(0, 0);
        x.whole(0, 77);
        due("the encoder's state", x.state(0, 0), was);
        x.finish();
        Play.readBits(x, 2);
        x.readWhole(0);
        x.raw(true);
        x.decode(0);
        x.decode(0);
        x.readWhole(0);
        due("the decoder's state", x.state(1, 0), was);
    }

    // Promises 10 and 11.

    private static void sixAreKeptAndNoMore() {
        ArithmeticRows x = new ArithmeticRows(1);
        int[] states = new int[7];
        for (int k = 0; k < 6; k++) {
            states[k] = x.state(0, 0);
            due("save " + k, Check.of(x::save), k);
            x.encode(0, 1);
        }
        int now = x.state(0, 0);
        Check.notNow("a seventh", x::save);
        Check.notNow("a seventh again", x::save);
        due("back(6)", x.back(6), false);
        due("the state stays", x.state(0, 0), now);
        for (int k = 5; k >= 0; k--) {
            due("back(" + k + ")", x.back(k), true);
            due("as it was kept", x.state(0, 0), states[k]);
        }
        Check.notNow("going back leaves no room", x::save);
    }

    private static void numbersThatThereAreNot() {
        ArithmeticRows x = new ArithmeticRows(1);
        due("back(0), none is kept", x.back(0), false);
        x.encode(0, 1);
        x.save();
        x.encode(0, 1);
        int now = x.state(0, 0);
        int[] none = {-1, 1, 5, 6, LEAST, LARGEST};
        for (int k : none) {
            due("back(" + k + "), one is kept", x.back(k), false);
            due("the state stays", x.state(0, 0), now);
        }
        due("back(0)", x.back(0), true);
        due("as it was kept", x.state(0, 0), 3);
    }

    /** All contexts are kept, the first and the last one too, and every one of six apart. */
    private static void allContextsAreKept() {
        ArithmeticRows x = new ArithmeticRows(65536);
        for (int k = 0; k < 6; k++) {
            x.encode(0, k & 1);
            x.encode(65535, 1);
            x.save();
        }
        int[] first = {2, 12, 14, 28, 30, 28};
        int[] last = {3, 3, 5, 5, 5, 7};
        for (int k = 0; k < 6; k++) {
            x.back(k);
            due("kept " + k + ", context 0", x.state(0, 0), first[k]);
            due("kept " + k + ", context 65535", x.state(0, 65535), last[k]);
            due("kept " + k + ", context 1", x.state(0, 1), 0);
        }
    }

    /** What is kept does not move with the contexts, and going back does not use it up. */
    private static void keptStaysAsItWas() {
        ArithmeticRows x = Play.coded(1, "A");
        x.save();
        for (int k = 0; k < 2; k++) {
            Play.put(x, "AAAA");
            due("it went on", x.state(0, 0) == 3, false);
            x.back(0);
            due("as it was kept", x.state(0, 0), 3);
        }
    }

    /** "(but sets')": a number is coded and read with sets that went on, whether it went back or not. */
    private static void setsAreNotKept() {
        ArithmeticRows x = new ArithmeticRows(1);
        ArithmeticRows y = new ArithmeticRows(1);
        x.save();
        for (int k = 0; k < 30; k++) {
            x.whole(0, 1234);
            y.whole(0, 1234);
            x.back(0);
        }
        due("sets: bytes", x.finish(), y.finish());
        due("sets: the row", Play.row(x), Play.row(y));
        for (int k = 0; k < 30; k++) {
            x.back(0);
            due("sets: read", x.readWhole(0), 1234);
        }
    }

    /** "of the side at work": going back leaves the other side, and there are six in all. */
    private static void sideAtWork() {
        ArithmeticRows x = Play.coded(1, "A");
        x.save();
        Play.put(x, "A");
        x.finish();
        due("decoding: its number", Check.of(x::save), 1);
        due("decoding: back(0)", x.back(0), true);
        due("decoding: the decoder's", x.state(1, 0), 3);
        due("decoding: the encoder's stays", x.state(0, 0), 5);
        due("decoding: back(1)", x.back(1), true);
        due("decoding: the decoder's own", x.state(1, 0), 0);
        for (int k = 2; k < 6; k++) {
            due("decoding: save", Check.of(x::save), k);
        }
        Check.notNow("decoding: a seventh", x::save);
    }

    /** The row and the numbers A, C and T are not kept: bits coded before go on to be there. */
    private static void bitsAreNotTakenBack() {
        ArithmeticRows x = new ArithmeticRows(1);
        x.save();
        Play.put(x, "AAaA");
        x.back(0);
        Play.put(x, "aA");
        x.finish();
        x.save();
        due("the bits before", Play.read(x, "AAaA"), "AAaA");
        x.back(0);
        due("the bits behind it", Play.read(x, "aA"), "aA");
    }

    // Promise 12.

    private static void codedAlready() {
        ArithmeticRows x = new ArithmeticRows(1);
        due("coded at first", x.raw(false), false);
        Play.put(x, "Aa");
        due("coded, with bits", x.raw(false), false);
        Play.put(x, "A");
        due("one segment", x.finish(), 1);
        due("its bits", Play.read(x, "AaA"), "AaA");
        due("there is none behind it", x.raw(false), false);
    }

    private static void rawAlready() {
        ArithmeticRows x = Play.rawBits("101");
        due("raw already", x.raw(true), false);
        Play.putBits(x, "00001");
        due("one byte of both", Play.row(x), "ff7fa1");
        due("raw already, nothing begun", x.raw(true), false);
        due("all bytes", x.finish(), 3);
    }

    private static void noNextSegment() {
        ArithmeticRows x = Play.coded(1, "AaAA");
        x.finish();
        due("none, unread", x.raw(true) || x.raw(false), false);
        due("two bits", Play.read(x, "Aa"), "Aa");
        int beyond = x.beyond();
        due("no raw one", x.raw(true), false);
        due("no coded one", x.raw(false), false);
        due("beyond stays", x.beyond(), beyond);
        due("the bits go on", Play.read(x, "AA"), "AA");
    }

    private static void nextSegmentOfAnotherSort() {
        ArithmeticRows x = Play.coded(1, "AaAA");
        x.raw(true);
        Play.putBits(x, "1001");
        x.raw(false);
        Play.put(x, "aaA");
        x.finish();
        due("two bits", Play.read(x, "Aa"), "Aa");
        due("the next one is raw", x.raw(false), false);
        due("the bits go on", Play.read(x, "AA"), "AA");
        due("to the raw one", x.raw(true), true);
        due("two raw bits", Play.readBits(x, 2), "10");
        due("the next one is coded", x.raw(true), false);
        due("the raw bits go on", Play.readBits(x, 2), "01");
        due("to the coded one", x.raw(false), true);
        due("its bits", Play.read(x, "aaA"), "aaA");
    }

    private static void segmentsWithNoBits() {
        ArithmeticRows x = new ArithmeticRows(1);
        for (int k = 0; k < 3; k++) {
            due("raw(true)", x.raw(true), true);
            due("raw(false)", x.raw(false), true);
        }
        due("no bits: bytes", x.finish(), 8);
        due("no bits: the row", Play.row(x), "ff7fff7fff7fff7f");
        due("no bits: to the second", x.raw(true), true);
        due("no bits: raw", Play.readBits(x, 3), "111");
        due("no bits: one beyond", x.beyond(), 1);
        due("no bits: to the third", x.raw(false), true);
        due("no bits: coded", x.decode(0), 1);
        due("no bits: to the others", x.raw(true) && x.raw(false) && x.raw(true) && x.raw(false), true);
        due("no bits: coded again", x.decode(0), 1);
        due("no bits: there is none", x.raw(true), false);
    }

    /** A raw segment with no bits at the end has no bytes, and is there. */
    private static void lastSegmentWithNoBits() {
        ArithmeticRows x = Play.coded(1, "a");
        x.raw(true);
        due("no bits at the end: bytes", x.finish(), 1);
        due("no bits at the end: it is there", x.raw(true), true);
        due("no bits at the end: bits", Play.readBits(x, 9), "111111111");
    }

    /** "another one begins (contexts stay)": A, C, T and B begin anew, the states do not. */
    private static void codedSegmentsBeginAnew() {
        ArithmeticRows x = Play.coded(2, "AAAABBaB");
        due("first segment, put out", Play.row(x), "");
        x.raw(true);
        x.raw(false);
        Play.put(x, "AAAABBaB");
        x.raw(true);
        x.raw(false);
        x.finish();
        due("three coded segments", Play.row(x), "d9" + "d3" + "ff7f");
        due("the encoder's states", x.state(0, 0) * 100 + x.state(0, 1), 4105);
        due("the first", Play.read(x, "AAAABBaB"), "AAAABBaB");
        x.raw(true);
        x.raw(false);
        due("the second", Play.read(x, "AAAABBaB"), "AAAABBaB");
        due("the decoder's states", x.state(1, 0) * 100 + x.state(1, 1), 4105);
    }

    /** A byte that was begun is filled, and the next raw segment has a byte of its own. */
    private static void rawSegmentsBeginAnew() {
        ArithmeticRows x = Play.rawBits("111");
        x.raw(false);
        x.raw(true);
        Play.putBits(x, "0");
        x.finish();
        due("two raw segments", Play.row(x), "ff7f" + "ea" + "ff7f" + "2a");
    }

    /** Behind a segment that ended with ff, the next one's first byte has all its eight bits. */
    private static void ffOfTheSegmentBefore() {
        ArithmeticRows x = Play.rawBits("11111111");
        x.raw(false);
        x.raw(true);
        Play.putBits(x, "10000001");
        x.finish();
        due("ff of the segment before: the row", Play.row(x), "ff7f" + "ff7f" + "81");
        x.raw(true);
        due("ff of the segment before: its bits", Play.readBits(x, 8), "11111111");
        x.raw(false);
        Play.readBits(x, 40);
        x.raw(true);
        due("ff of the segment before: eight bits", Play.readBits(x, 8), "10000001");
        due("ff of the segment before: its own", x.beyond(), 0);
    }

    /** Bits that were not read are left: the next segment begins with its own first byte. */
    private static void segmentsAreLeftAnywhere() {
        ArithmeticRows x = Play.coded(4, "AbAbaaBB");
        x.raw(true);
        Play.putBits(x, "100110010110");
        x.raw(false);
        Play.put(x, "CdCCd");
        x.raw(true);
        Play.putBits(x, "01101001");
        x.finish();
        due("some bits", Play.read(x, "Ab"), "Ab");
        due("on", x.raw(true), true);
        due("some raw bits", Play.readBits(x, 3), "100");
        due("on again", x.raw(false), true);
        due("the third one's bits", Play.read(x, "CdCCd"), "CdCCd");
        due("on to the last", x.raw(true), true);
        due("the last one's bits", Play.readBits(x, 8), "01101001");
        due("all are its own", x.beyond(), 0);
    }

    // Promise 13.

    private static void noneBeyondWhileEncoding() {
        ArithmeticRows x = new ArithmeticRows(1);
        due("beyond() of a new one", x.beyond(), 0);
        Play.put(x, "AaA");
        due("beyond() with bits", x.beyond(), 0);
        x.raw(true);
        x.encode(0, 1);
        due("beyond() with raw bits", x.beyond(), 0);
    }

    /** "Nothing is taken before the first bit is read", in each segment. */
    private static void nothingTakenBeforeTheFirstBit() {
        ArithmeticRows x = Play.coded(1, "a");
        x.raw(true);
        x.raw(false);
        x.finish();
        due("unread", x.beyond(), 0);
        x.decode(0);
        due("a bit read, of one byte", x.beyond(), 1);
        x.raw(true);
        due("the raw segment, unread", x.beyond(), 0);
        x.decode(0);
        due("a raw bit read, of no byte", x.beyond(), 1);
        x.raw(false);
        due("the coded segment, unread", x.beyond(), 0);
        x.decode(0);
        due("a bit read, of two bytes", x.beyond(), 1);
    }

    /** Behind the ff that was taken beyond, no more are: they are above 8f. */
    private static void codedTakesOneBeyond() {
        ArithmeticRows x = Play.coded(60, "CbbBCacCBBCACAc");
        x.finish();
        for (int k = 0; k < 60; k++) {
            x.decode(k);
            due("coded: beyond behind bit " + (k + 1), x.beyond(), k < 8 ? 0 : 1);
        }
    }

    private static void noneBeyondBehindAnFfOfItsOwn() {
        ArithmeticRows x = Play.coded(60, "CbbBCacCBBCACAc");
        x.finish();
        x.feed(0xff);
        Play.readRound(x, 60, 120);
        due("behind ff of its own", x.beyond(), 0);
    }

    /** Raw: a byte is taken when its first bit is, eight bits and then seven each. */
    private static void rawTakesBeyond() {
        ArithmeticRows x = Play.rawToRead("00000000");
        for (int k = 1; k <= 40; k++) {
            x.decode(0);
            int beyond = k <= 8 ? 0 : k <= 16 ? 1 : 2 + (k - 17) / 7;
            due("raw: beyond behind bit " + k, x.beyond(), beyond);
        }
    }

    // Promise 14.

    private static final String[] WHENCE = {
        "new", "coded bits", "numbers", "raw bits", "raw bits behind ff", "six kept", "segments", "unread", "fed",
        "read", "read past the end", "raw read", "numbers read", "gone back"};

    /** An object with two contexts that has come there. */
    private static ArithmeticRows come(String whence) {
        ArithmeticRows x = new ArithmeticRows(2);
        switch (whence) {
            case "new" -> x.beyond();
            case "coded bits" -> Play.put(x, "AABAbbAABABABABABbbaaBAA");
            case "numbers" -> manyNumbers(x);
            case "raw bits" -> someRaw(x, "10110");
            case "raw bits behind ff" -> someRaw(x, "11111111" + "101");
            case "six kept" -> sixKept(x);
            case "segments" -> someSegments(x);
            case "unread" -> x.finish();
            case "fed" -> someFed(x);
            case "read" -> someRead(x, 5);
            case "read past the end" -> someRead(x, 200);
            case "raw read" -> someRawRead(x);
            case "numbers read" -> numbersRead(x);
            default -> goneBack(x);
        }
        return x;
    }

    private static void manyNumbers(ArithmeticRows x) {
        for (int k = 0; k < 40; k++) {
            x.whole(k % 8, k * k * k - 9000);
        }
    }

    private static void someRaw(ArithmeticRows x, String bits) {
        x.raw(true);
        Play.putBits(x, bits);
    }

    private static void sixKept(ArithmeticRows x) {
        for (int k = 0; k < 6; k++) {
            x.encode(k & 1, 1);
            x.save();
        }
    }

    private static void someSegments(ArithmeticRows x) {
        for (int k = 0; k < 5; k++) {
            x.raw(k % 2 == 0);
            x.encode(0, 1);
        }
    }

    private static void someFed(ArithmeticRows x) {
        someSegments(x);
        x.finish();
        Play.feed(x, 1, 2, 3);
    }

    private static void someRead(ArithmeticRows x, int bits) {
        Play.put(x, "AABAbbAABAB");
        x.finish();
        Play.readRound(x, 2, bits);
    }

    private static void someRawRead(ArithmeticRows x) {
        someSegments(x);
        x.finish();
        x.raw(true);
        Play.readBits(x, 20);
    }

    private static void numbersRead(ArithmeticRows x) {
        manyNumbers(x);
        x.finish();
        for (int k = 0; k < 40; k++) {
            x.readWhole(k % 8);
        }
    }

    private static void goneBack(ArithmeticRows x) {
        sixKept(x);
        x.finish();
        x.back(5);
    }

    private static void asItWasMade() {
        for (String whence : WHENCE) {
            ArithmeticRows x = come(whence);
            x.reset();
            sameAsNew(whence, x);
        }
    }

    private static void resetTwice() {
        ArithmeticRows x = come("raw read");
        x.reset();
        x.reset();
        sameAsNew("reset twice", x);
        x.reset();
        sameAsNew("used again", x);
    }

    private static void sameAsNew(String whence, ArithmeticRows x) {
        ArithmeticRows y = new ArithmeticRows(2);
        due("reset, " + whence + ": encoding", encodingAnswers(x), encodingAnswers(y));
        due("reset, " + whence + ": decoding", decodingAnswers(x), decodingAnswers(y));
    }

    private static String encodingAnswers(ArithmeticRows x) {
        StringBuilder told = new StringBuilder();
        told.append(Play.row(x)).append(' ').append(x.beyond()).append(' ').append(states(x));
        told.append(Check.of(() -> x.state(0, 2))).append(Check.of(() -> x.decode(0))).append(x.back(0));
        told.append(Check.of(() -> x.feed(1))).append(x.raw(false));
        for (int k = 0; k < 20; k++) {
            told.append(' ').append(x.encode(k & 1, k % 3 & 1));
        }
        for (int set = 0; set < 8; set++) {
            told.append(' ').append(x.whole(set, 100 - 30 * set));
        }
        told.append(x.save()).append(x.raw(true));
        for (int k = 0; k < 20; k++) {
            told.append(' ').append(x.encode(0, k < 9 ? 1 : 0));
        }
        told.append(x.raw(false)).append(x.encode(1, 1)).append(x.save()).append(' ').append(states(x));
        return told.append(x.finish()).append(' ').append(Play.row(x)).toString();
    }

    private static String decodingAnswers(ArithmeticRows x) {
        StringBuilder told = new StringBuilder();
        told.append(x.beyond()).append(x.feed(0x3c)).append(x.back(2)).append(' ').append(states(x));
        told.append(Play.readRound(x, 2, 20));
        for (int set = 0; set < 8; set++) {
            told.append(' ').append(x.readWhole(set));
        }
        told.append(x.beyond()).append(x.raw(true)).append(Play.readBits(x, 30)).append(x.beyond());
        told.append(x.raw(false)).append(Play.readRound(x, 2, 40)).append(x.beyond()).append(x.raw(true));
        return told.append(' ').append(states(x)).append(x.save()).append(Play.row(x)).toString();
    }

    private static String states(ArithmeticRows x) {
        return x.state(0, 0) + " " + x.state(0, 1) + " " + x.state(1, 0) + " " + x.state(1, 1) + " ";
    }

    public static void main(String[] args) {
        contextsFrom1To65536();
        fewerThan1IsOne();
        moreThan65536IsThat();
        noByteBeforeOneIsPutOut();
        rawByteThatIsBegunIsNone();
        byteThatWentIsNone();
        bytesThatAreFedAreOfTheRow();
        feedFrom0To255();
        feedTo4000();
        lookingIsNotReading();
        readingABitEndsFeeding();
        readingANumberEndsFeeding();
        leavingTheSegmentEndsFeeding();
        fedBytesAreTheLastSegments();
        sidesAreTwo();
        statesStayWithoutBitsOfTheirOwn();
        sixAreKeptAndNoMore();
        numbersThatThereAreNot();
        allContextsAreKept();
        keptStaysAsItWas();
        setsAreNotKept();
        sideAtWork();
        bitsAreNotTakenBack();
        codedAlready();
        rawAlready();
        noNextSegment();
        nextSegmentOfAnotherSort();
        segmentsWithNoBits();
        lastSegmentWithNoBits();
        codedSegmentsBeginAnew();
        rawSegmentsBeginAnew();
        ffOfTheSegmentBefore();
        segmentsAreLeftAnywhere();
        noneBeyondWhileEncoding();
        nothingTakenBeforeTheFirstBit();
        codedTakesOneBeyond();
        noneBeyondBehindAnFfOfItsOwn();
        rawTakesBeyond();
        asItWasMade();
        resetTwice();
        Check.end();
    }
}
