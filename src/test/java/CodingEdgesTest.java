/**
 * The boundary cases of CODING, PUTTING OUT, ENDING, READING, TAKING and RAW, a method each. The bytes and bits that
 * are due were worked out apart from the class, by the words of the document alone.
 */
public final class CodingEdgesTest {
    private static void due(String what, Object got, Object want) {
        Check.due(what, got, want);
    }

    /** Coded, ended and read again: the bytes put out before the end, and the row. */
    private static void codes(String what, String letters, String putOut, String row) {
        ArithmeticRows x = Play.coded(3, letters);
        due(what + ": put out by " + letters, Play.row(x), putOut);
        due(what + ": bytes of " + letters, x.finish(), row.length() / 2);
        due(what + ": the row of " + letters, Play.row(x), row);
        due(what + ": read", Play.read(x, letters), letters);
        for (int k = 0; k < 3; k++) {
            due(what + ": state of context " + k, x.state(1, k), x.state(0, k));
        }
    }

    /** A row of coded bits and of bytes that are fed, read with contexts 0, 1, .. by turns. */
    private static ArithmeticRows fed(int contexts, String letters, int... bytes) {
        ArithmeticRows x = Play.coded(contexts, letters);
        x.finish();
        Play.feed(x, bytes);
        return x;
    }

    private static void reads(String what, ArithmeticRows x, int contexts, String bits, int... states) {
        due(what + ": bits", Play.readRound(x, contexts, bits.length()), bits);
        for (int k = 0; k < states.length; k++) {
            due(what + ": state of context " + k, x.state(1, k), states[k]);
        }
    }

    /** "if A is 8000 or more": the last bit here leaves A at 8000, so the state stays and nothing is renewed. */
    private static void codedWithAOf8000() {
        ArithmeticRows x = Play.coded(2, "BBbAAB");
        due("A is 8000: the state before", x.state(0, 1), 19);
        x.encode(1, 1);
        due("A is 8000: the state stays", x.state(0, 1), 19);
        codes("A is 8000", "BBbAABBa", "", "c7bf");
    }

    /** "a number A, at first 8000": with one more, the last bit but one here would leave its state as it is. */
    private static void aIs8000AtFirst() {
        due("A at first: the state", Play.coded(3, "BCBCBAACCABCBA").state(0, 0), 5);
        codes("A at first", "BCBCBAACCABCBAa", "ff", "ff07");
    }

    /** "8000 or more": the last bit here leaves A at 7fff, which is renewed, and the state is the next one. */
    private static void codedWithAOf7fff() {
        ArithmeticRows x = Play.coded(2, "Aaaaabbb");
        due("A is 7fff: the state before", x.state(0, 1), 4);
        x.encode(1, 0);
        due("A is 7fff: the next state", x.state(0, 1), 6);
        codes("A is 7fff", "Aaaaabbbb", "", "b67f");
        codes("A is 7fff, another behind it", "AaaaabbbbA", "", "b65f");
    }

    /** "if A is below Q": with the second bit here it is Q, so it is not below. */
    private static void codedWithAOfQ() {
        codes("A is Q, likely", "bc", "", "7f");
        codes("A is Q, likely, another behind it", "bcB", "", "5f");
        codes("A is Q, other", "aB", "", "3f");
        codes("A is Q, other, another behind it", "aBA", "", "0f");
    }

    /** With new contexts A is below Q at once: the parts change places. */
    private static void codedWithABelowQ() {
        codes("A is below Q, likely", "a", "", "7f");
        codes("A is below Q, other", "A", "", "ff7f");
    }

    /** "again, as long as A is below 8000": behind the eighth bit here it becomes 8000. */
    private static void renewedTo8000() {
        codes("renewed to 8000", "BABaaaBAb", "e6", "e63f");
    }

    /**
     * "T, at first 12", "T becomes 8" and "T becomes 7": a bit 0 with a new context is renewed once. The third byte
     * is fe at first, a carry makes it ff, and the next ones come behind ff.
     */
    private static void howManyRenewalsAByteTakes() {
        ArithmeticRows x = new ArithmeticRows(60);
        int[] atBit = {12, 20, 28, 36, 43, 51, 58, 61};
        int bytes = 0;
        for (int k = 0; k < 60; k++) {
            bytes += k + 1 == atBit[bytes] ? 1 : 0;
            due("renewals: bytes behind bit " + (k + 1), x.encode(k, 0), bytes);
        }
        due("renewals: the bytes", Play.row(x), "ac01ff7fff7fff");
    }

    /** "if C is 2^27 or more, B is 1 more": a byte that could be had already changes. */
    private static void carryIntoTheByteBefore() {
        ArithmeticRows x = Play.coded(3, "CbbBCacCBBCACA");
        due("carry: the byte before it", Play.row(x), "b9");
        due("carry: bytes", x.encode(2, 0), 2);
        due("carry: the byte is 1 more", Play.row(x), "ba00");
        codes("carry", "CbbBCacCBBCACAc", "ba00", "ba008f");
    }

    /** A byte 00 is a byte too, and the first one may be 1 more later: only when it is put out it never is. */
    private static void carryInto00() {
        codes("carry into 00 when it ends", "aCAcBAABccAcbc", "00", "0105");
        codes("carry into 00", "aCAcBAABccAcbcC", "0105", "01059f");
    }

    /** "2^27 or more": here C is 2^27 and no more. */
    private static void carryWithCOf2To27() {
        due("C is 2^27: the byte before it", Play.row(Play.coded(3, "ABbbABbcCCCBAACABAAbAC")), "d8");
        codes("C is 2^27", "ABbbABbcCCCBAACABAAbACb", "d900", "d9000f");
    }

    /** "if it is ff then, C keeps its lowest 27 bits, and it goes on as with ff". */
    private static void carryThatMakesFf() {
        due("carry to ff: the byte before it", Play.row(Play.coded(3, "BAcAcCaBAbcaBbbBbcbcBbcb")), "e0fe");
        codes("carry to ff", "BAcAcCaBAbcaBbbBbcbcBbcbb", "e0ff04", "e0ff04d7");
    }

    /** "if B is ff": the byte is C / 2^20, and a carry stays in its highest bit. */
    private static void carryBehindFf() {
        due("carry behind ff: the byte before it", Play.row(Play.coded(2, "BbAbbbbAbBBaAabAAABbaBbA")), "b0ff");
        codes("carry behind ff", "BbAbbbbAbBBaAabAAABbaBbAb", "b0ff81", "b0ff81b7");
    }

    /** "and is less by 8000 if it is not below D". (It is never D itself: D is even.) */
    private static void endingBelowDAndAbove() {
        codes("ending, below D", "aAaaaa", "", "27");
        codes("ending, not below D", "baBCcc", "", "56");
    }

    private static void endingWithACarry() {
        codes("ending with a carry", "BcbababCBcBc", "b2", "b307");
        codes("ending with a carry to ff", "aABcAcAcbBCaBAcBbAbCCCAAbCaBcacCcBaaaACB", "0e718afe", "0e718aff04bf");
    }

    private static void endingBehindFf() {
        codes("ending behind ff", "AAaaAAaaAaAaaAAAAAaa", "c6ff", "c6ff857f");
    }

    /** "if the last byte is ff, it goes": two are put out, one stays. */
    private static void endingWithFf() {
        ArithmeticRows x = Play.coded(1, "a");
        due("a last byte ff: bytes", x.finish(), 1);
        due("a last byte ff: the row", Play.row(x), "7f");
        Check.noContext("a last byte ff: it is no more", () -> x.byteAt(1));
    }

    private static void emptyRow() {
        ArithmeticRows x = new ArithmeticRows(1);
        Check.noContext("an empty row has no byte", () -> x.byteAt(0));
        due("an empty row: bytes", x.finish(), 2);
        due("an empty row: the bytes", Play.row(x), "ff7f");
        reads("an empty row", x, 1, "111111111111", 7);
    }

    /** "If C / 2^16 is below Q": with the sixth bit it is Q; in the other row it is Q - 1 with the second one. */
    private static void readWithCOfQ() {
        reads("C / 2^16 is Q", fed(1, "aAAa", 0xff, 0x8f), 1, "011000101010", 30);
        reads("C / 2^16 is Q - 1", fed(1, "aaAAAA", 0x00), 1, "010011000010", 30);
    }

    /** "if A is below Q": it is Q with the second bit. */
    private static void readWithAOfQ() {
        reads("read, A is Q, C above", fed(2, "a"), 2, "00", 2, 2);
        reads("read, A is Q, C below", fed(2, "aA"), 2, "01", 2, 3);
    }

    /** "if A is below 8000": it is 8000 with the twentieth bit, and the state stays. */
    private static void readWithAOf8000() {
        ArithmeticRows x = fed(2, "Aa", 0x80);
        reads("read, A before it is 8000", x, 2, "1011101010101010101", 5, 24);
        due("read, A is 8000", x.decode(1), 0);
        due("read, A is 8000: the state stays", x.state(1, 1), 24);
        reads("read, A was 8000", x, 2, "1010", 7, 24);
    }

    /** "again, as long as A is below 8000": it becomes 8000 behind the fifteenth bit. */
    private static void readAndRenewedTo8000() {
        reads("read, renewed to 8000", fed(2, "a"), 2, "00001010001000101010", 31, 6);
    }

    /** "C is kept in 32 bits": behind ff8f it becomes more than they hold, with the 22nd bit. */
    private static void readWithCIn32Bits() {
        String bits = "11111010000000110000111101001010011011010100011000101011110101011101000011011100";
        reads("C in 32 bits", fed(80, "", 0xff, 0x8f), 80, bits);
    }

    /** "without a sign": the highest of the 32 bits is set from the second bit on. */
    private static void readWithoutASign() {
        reads("C without a sign", fed(4, ""), 4, "1".repeat(48), 7, 7, 7, 9);
    }

    private static final String BEHIND_FF_8F = "001000001011111110000110101101000000001111011100001110111111";
    private static final String BEHIND_FF_8F_00 = "001000001011111110001000001011111000100001100000101001011001";
    private static final String BEHIND_FF_90 = "001000001011111110011110100001000001110000111011001101001110";

    /** "if the next one is above 8f, it is not taken": 8f is. */
    private static void taking8fBehindFf() {
        reads("8f behind ff", fed(60, "a", 0xff, 0x8f), 60, BEHIND_FF_8F);
        reads("8f behind ff, 00 behind it", fed(60, "a", 0xff, 0x8f, 0), 60, BEHIND_FF_8F_00);
    }

    /** 90 is not, nor what stands behind it: the decoder stays there. */
    private static void notTaking90BehindFf() {
        reads("90 behind ff", fed(60, "a", 0xff, 0x90), 60, BEHIND_FF_90);
        reads("90 behind ff, 00 behind it", fed(60, "a", 0xff, 0x90, 0, 0, 0), 60, BEHIND_FF_90);
        reads("ff behind ff", fed(60, "a", 0xff, 0xff, 0, 0, 0), 60, BEHIND_FF_90);
        reads("the end behind ff", fed(60, "a", 0xff), 60, BEHIND_FF_90);
        ArithmeticRows x = fed(60, "a", 0xff, 0x90, 0);
        Play.readRound(x, 60, 60);
        due("90 behind ff: none beyond", x.beyond(), 0);
    }

    /** "BEYOND the segment all bytes are ff": with some ff fed, the same is read. */
    private static void codedBeyondTheSegment() {
        String bits = "101010110010110000001110010111110001011010110101010100010011";
        String letters = "CbbBCacCBBCACAc";
        reads("beyond", fed(60, letters), 60, bits);
        reads("beyond, ff fed", fed(60, letters, 0xff), 60, bits);
        reads("beyond, ff fed twice", fed(60, letters, 0xff, 0xff), 60, bits);
    }

    /** Beyond the segment: not the next one's bytes, which are 0 here. */
    private static void codedBesideAnotherSegment() {
        ArithmeticRows x = Play.coded(60, "a");
        x.raw(true);
        Play.putBits(x, "0".repeat(32));
        due("a raw segment behind it: bytes", x.finish(), 5);
        reads("a raw segment behind it", x, 60, BEHIND_FF_90);
    }

    /** "bits come into bytes from the highest one on". */
    private static void rawFromTheHighestBit() {
        due("raw, highest first", Play.row(Play.rawBits("1000000001000000")), "ff7f8040");
    }

    /** "behind a byte ff into the lower seven of the next one, its highest is 0". */
    private static void rawBehindFf() {
        due("raw behind ff", Play.row(Play.rawBits("11111111" + "1000001")), "ff7fff41");
        due("raw behind ff 7f", Play.row(Play.rawBits("11111111" + "1111111" + "10000001")), "ff7fff7f81");
        due("raw behind ff, ff again", Play.row(Play.rawBits("11111111" + "1111111" + "11111111" + "0000000")),
            "ff7fff7fff00");
        due("raw behind fe", Play.row(Play.rawBits("11111110" + "10000001")), "ff7ffe81");
        Check.noContext("raw behind ff, six bits", () -> Play.rawBits("11111111" + "111111").byteAt(3));
    }

    /** "Ending fills a byte that is begun with 0, 1, 0, 1 ..". */
    private static void rawFilled() {
        String[] zeros = {"", "2a", "15", "0a", "05", "02", "01", "00", "00"};
        String[] ones = {"", "aa", "d5", "ea", "f5", "fa", "fd", "fe", ""};
        String[] behindFf = {"", "15", "0a", "05", "02", "01", "00", "00"};
        for (int k = 0; k <= 8; k++) {
            filled("0".repeat(k), zeros[k]);
            filled("1".repeat(k), ones[k]);
        }
        for (int k = 1; k <= 7; k++) {
            filled("11111111" + "0".repeat(k), "ff" + behindFf[k]);
        }
        filled("11111111" + "111111", "ff7e");
        filled("11111111" + "1111111", "ff7f");
    }

    private static void filled(String bits, String bytes) {
        ArithmeticRows x = Play.rawBits(bits);
        due("raw filled: bytes of " + bits, x.finish(), 2 + bytes.length() / 2);
        due("raw filled: " + bits, Play.row(x), "ff7f" + bytes);
    }

    /** "if the last byte is ff, it goes": one alone, and not the one before it. */
    private static void rawEndingWithFf() {
        ArithmeticRows x = Play.rawBits("11111111");
        due("raw ff: put out", Play.row(x), "ff7fff");
        due("raw ff: bytes", x.finish(), 2);
        due("raw ff: it went", Play.row(x), "ff7f");
        ArithmeticRows y = Play.rawBits("11111111" + "1111111" + "11111111");
        due("raw ff behind 7f: put out", Play.row(y), "ff7fff7fff");
        due("raw ff behind 7f: it went", y.finish(), 4);
    }

    /** "Read likewise": behind ff seven bits, also if the highest is 1, as a fed byte's may be. */
    private static void rawReadBehindFf() {
        ArithmeticRows x = Play.rawBits("");
        x.finish();
        Play.feed(x, 0xff, 0x81, 0x81, 0xff, 0xff, 0x80);
        x.raw(true);
        due("raw read behind ff", Play.readBits(x, 45), "11111111" + "0000001" + "10000001" + "11111111" + "1111111"
            + "0000000");
        due("raw read behind ff: all are its own", x.beyond(), 0);
    }

    /** "beyond the segment all bytes are ff", the next segment's bytes being others. */
    private static void rawBeyondTheSegment() {
        ArithmeticRows x = Play.rawBits("1010");
        x.raw(false);
        Play.put(x, "aAaaaa");
        due("raw beyond: bytes", x.finish(), 4);
        due("raw beyond: the row", Play.row(x), "ff7fa527");
        x.raw(true);
        due("raw beyond: bits", Play.readBits(x, 40), "10100101" + "1".repeat(32));
        due("raw beyond: 8, 7, 7, 7 and 3 bits", x.beyond(), 5);
    }

    public static void main(String[] args) {
        aIs8000AtFirst();
        codedWithAOf7fff();
        codedWithAOf8000();
        codedWithAOfQ();
        codedWithABelowQ();
        renewedTo8000();
        howManyRenewalsAByteTakes();
        carryIntoTheByteBefore();
        carryInto00();
        carryWithCOf2To27();
        carryThatMakesFf();
        carryBehindFf();
        endingBelowDAndAbove();
        endingWithACarry();
        endingBehindFf();
        endingWithFf();
        emptyRow();
        readWithCOfQ();
        readWithAOfQ();
        readWithAOf8000();
        readAndRenewedTo8000();
        readWithCIn32Bits();
        readWithoutASign();
        taking8fBehindFf();
        notTaking90BehindFf();
        codedBeyondTheSegment();
        codedBesideAnotherSegment();
        rawFromTheHighestBit();
        rawBehindFf();
        rawFilled();
        rawEndingWithFf();
        rawReadBehindFf();
        rawBeyondTheSegment();
        Check.end();
    }
}
