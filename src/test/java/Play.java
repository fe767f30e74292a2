/** Short ways to fill rows and to read them. Bits are written as letters: a is 0 with context 0, B is 1 with context 1. */
final class Play {
    private Play() {
    }

    static ArithmeticRows coded(int contexts, String letters) {
        ArithmeticRows x = new ArithmeticRows(contexts);
        put(x, letters);
        return x;
    }

    /** Behind a first segment that is empty (ff7f), a raw one with these bits, written 0 and 1. */
    static ArithmeticRows rawBits(String bits) {
        ArithmeticRows x = new ArithmeticRows(1);
        x.raw(true);
        putBits(x, bits);
        return x;
    }

    /** The same, read from its second segment on. */
    static ArithmeticRows rawToRead(String bits) {
        ArithmeticRows x = rawBits(bits);
        x.finish();
        x.raw(true);
        return x;
    }

    static void put(ArithmeticRows x, String letters) {
        for (char letter : letters.toCharArray()) {
            x.encode(Character.toLowerCase(letter) - 'a', Character.isUpperCase(letter) ? 1 : 0);
        }
    }

    static void putBits(ArithmeticRows x, String bits) {
        for (char bit : bits.toCharArray()) {
            x.encode(0, bit - '0');
        }
    }

    static void feed(ArithmeticRows x, int... bytes) {
        for (int b : bytes) {
            x.feed(b);
        }
    }

    /** What is read with the contexts of these letters, written as they are if it is what they say. */
    static String read(ArithmeticRows x, String letters) {
        StringBuilder text = new StringBuilder();
        for (char letter : letters.toLowerCase().toCharArray()) {
            text.append(x.decode(letter - 'a') == 1 ? Character.toUpperCase(letter) : letter);
        }
        return text.toString();
    }

    static String readBits(ArithmeticRows x, int bits) {
        return readRound(x, 1, bits);
    }

    /** Bits read with context 0, 1, .. one after another, and from 0 on again. */
    static String readRound(ArithmeticRows x, int contexts, int bits) {
        StringBuilder text = new StringBuilder();
        for (int k = 0; k < bits; k++) {
            text.append(x.decode(k % contexts));
        }
        return text.toString();
    }

    static String bytes(ArithmeticRows x, int from, int to) {
        StringBuilder text = new StringBuilder();
        for (int i = from; i < to; i++) {
            text.append(String.format("%02x", x.byteAt(i)));
        }
        return text.toString();
    }

    /** All bytes that can be had. */
    static String row(ArithmeticRows x) {
        return bytes(x, 0, length(x));
    }

    static int length(ArithmeticRows x) {
        int i = 0;
        while (hasByte(x, i)) {
            i++;
        }
        return i;
    }

    private static boolean hasByte(ArithmeticRows x, int i) {
        return Check.of(() -> x.byteAt(i)) instanceof Integer;
    }
}
