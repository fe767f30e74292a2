import java.util.Random;
import java.util.TreeSet;

/**
 * Every state that can be met, left behind a likely bit and behind the other one, as the second writing leaves it.
 * The rare states need far more than 512 calls here; what is told of them holds for shorter runs too.
 */
public final class TableTest {
    private final TreeSet<String> left = new TreeSet<>();

    private void step(ArithmeticRows rows, Model model, int bit) {
        int before = model.state(0, 0);
        int bytes = model.encode(0, bit);
        Check.due("encode behind state " + before / 2, rows.encode(0, bit), bytes);
        Check.due("the state behind " + before / 2, rows.state(0, 0), model.state(0, 0));
        boolean likely = bit == before % 2;
        if (!likely || model.state(0, 0) != before) {
            left.add(before / 2 + (likely ? " likely" : " other"));
        }
    }

    private void finish(ArithmeticRows rows, Model model, int bits) {
        int all = model.finish();
        Check.due("finish()", rows.finish(), all);
        for (int i = 0; i < all; i++) {
            Check.due("byte " + i, rows.byteAt(i), model.byteAt(i));
        }
        for (int i = 0; i < bits; i++) {
            Check.due("decode", rows.decode(0), model.decode(0));
            Check.due("the decoder's state", rows.state(1, 0), model.state(1, 0));
        }
        Check.due("both sides", rows.state(1, 0), rows.state(0, 0));
    }

    private void run(int zeros, int ones, int mixed, Random chance) {
        ArithmeticRows rows = new ArithmeticRows(1);
        Model model = new Model(1);
        for (int k = 0; k < zeros; k++) {
            step(rows, model, 0);
        }
        for (int k = 0; k < ones; k++) {
            step(rows, model, 1);
        }
        int likelihood = 2 + chance.nextInt(mixed / 10);
        for (int k = 0; k < mixed; k++) {
            step(rows, model, chance.nextInt(likelihood) == 0 ? 0 : 1);
        }
        finish(rows, model, zeros + ones + mixed);
    }

    public static void main(String[] args) {
        TableTest test = new TableTest();
        Random chance = new Random(88);
        int[] zeros = {0, 3, 20, 100, 200, 400, 800, 1500, 3000, 5000, 8000, 15000, 30000, 60000};
        for (int many : zeros) {
            for (int ones = 0; ones < 60; ones += 12) {
                test.run(many, ones, 400, chance);
            }
        }
        for (int k = 0; k < 1000; k++) {
            test.run(k % 50, k % 3, 20 + k % 300, chance);
        }
        for (int k = 0; k < 30; k++) {
            test.run(0, 0, 5000, chance);
        }
        for (int state = 0; state < 46; state++) {
            Check.due("met: " + state + " other", test.left.contains(state + " other"), true);
            // Behind a likely bit 45 stays as it is.
            Check.due("met: " + state + " likely", test.left.contains(state + " likely"), state != 45);
        }
        Check.end();
    }
}
