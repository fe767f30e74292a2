/** The test sequence of T.88, H.2: one context, 256 bits, and the bytes that they give. */
public final class StandardTest {
    private static final String BITS = "00020051000000C0035287 2AAAAAAAAA82C02000FCD79EF6BF7FED904F46A3BF".replace(" ", "");
    private static final String CODED = "84C73BFCE1A1430402200000410DBB86F4317FFF88FF37471ADB6ADF";

    private static int bitAt(int i) {
        return Integer.parseInt(BITS.substring(i / 4, i / 4 + 1), 16) >> 3 - i % 4 & 1;
    }

    public static void main(String[] args) {
        ArithmeticRows rows = new ArithmeticRows(1);
        for (int i = 0; i < 256; i++) {
            rows.encode(0, bitAt(i));
        }
        Check.due("finish()", rows.finish(), CODED.length() / 2);
        StringBuilder coded = new StringBuilder();
        for (int i = 0; i < CODED.length() / 2; i++) {
            coded.append(String.format("%02X", rows.byteAt(i)));
        }
        Check.due("the bytes", coded.toString(), CODED);
        for (int i = 0; i < 256; i++) {
            Check.due("bit " + i, rows.decode(0), bitAt(i));
        }
        Check.due("the states", rows.state(1, 0), rows.state(0, 0));
        Check.end();
    }
}
