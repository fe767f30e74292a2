import java.util.Random;

/** Runs of calls by chance, with wrong ones among them: each answer is that of the second writing. */
public final class ModelTest {
    private static final int[] EDGES = {
        0, 1, -1, 2, 3, -3, 4, -4, 19, -19, 20, -20, 83, -83, 84, -84, 339, -339, 340, -340, 4435, -4435, 4436, -4436,
        65535, 1 << 30, -(1 << 30), Integer.MAX_VALUE, -Integer.MAX_VALUE, Integer.MIN_VALUE};

    private final Random chance;
    private final int contexts;
    private final ArithmeticRows rows;
    private final Model model;
    private final int likelihood;
    private final int resets;
    private int run;

    private ModelTest(int run, int contexts, int resets) {
        this.run = run;
        this.chance = new Random(run);
        this.contexts = contexts;
        this.rows = new ArithmeticRows(contexts);
        this.model = new Model(contexts);
        this.likelihood = new int[] {2, 3, 8, 40, 200}[run % 5];
        this.resets = resets;
    }

    private int context() {
        return chance.nextInt(60) == 0 ? (chance.nextBoolean() ? -1 : contexts) : chance.nextInt(contexts);
    }

    private int set() {
        return chance.nextInt(60) == 0 ? (chance.nextBoolean() ? -1 : 8) : chance.nextInt(8);
    }

    private int bit() {
        return chance.nextInt(60) == 0 ? (chance.nextBoolean() ? -1 : 2) : chance.nextInt(likelihood) == 0 ? 1 : 0;
    }

    private int number() {
        return chance.nextBoolean() ? EDGES[chance.nextInt(EDGES.length)] : chance.nextInt() >> chance.nextInt(32);
    }

    private int aByte() {
        int kind = chance.nextInt(8);
        if (kind == 0) {
            return chance.nextInt(600) - 300;
        }
        return kind < 4 ? 255 : kind < 5 ? 0x8f : kind < 6 ? 0x90 : chance.nextInt(256);
    }

    private void same(String call, Check.Call got, Check.Call want) {
        Check.due("run " + run + ": " + call, Check.of(got), Check.of(want));
    }

    private void encode() {
        int x = context();
        int b = bit();
        same("encode(" + x + ", " + b + ")", () -> rows.encode(x, b), () -> model.encode(x, b));
    }

    private void decode() {
        int x = context();
        same("decode(" + x + ")", () -> rows.decode(x), () -> model.decode(x));
    }

    private void whole() {
        int s = set();
        int v = number();
        same("whole(" + s + ", " + v + ")", () -> rows.whole(s, v), () -> model.whole(s, v));
    }

    private void readWhole() {
        int s = set();
        same("readWhole(" + s + ")", () -> rows.readWhole(s), () -> model.readWhole(s));
    }

    private void feed() {
        int b = aByte();
        same("feed(" + b + ")", () -> rows.feed(b), () -> model.feed(b));
    }

    private void look() {
        int i = chance.nextInt(40) - 1;
        int side = chance.nextInt(20) == 0 ? (chance.nextBoolean() ? -1 : 2) : chance.nextInt(2);
        int x = context();
        same("byteAt(" + i + ")", () -> rows.byteAt(i), () -> model.byteAt(i));
        same("state(" + side + ", " + x + ")", () -> rows.state(side, x), () -> model.state(side, x));
        same("beyond()", rows::beyond, model::beyond);
    }

    private void keep() {
        int k = chance.nextInt(8) - 1;
        if (chance.nextBoolean()) {
            same("save()", rows::save, model::save);
        } else {
            same("back(" + k + ")", () -> rows.back(k), () -> model.back(k));
        }
    }

    private void turn() {
        boolean on = chance.nextBoolean();
        same("raw(" + on + ")", () -> rows.raw(on), () -> model.raw(on));
    }

    private void startAgain() {
        rows.reset();
        model.reset();
    }

    private void encodingCall() {
        int kind = chance.nextInt(100);
        if (kind < 75) {
            encode();
        } else if (kind < 88) {
            whole();
        } else if (kind < 91) {
            turn();
        } else if (kind < 94) {
            keep();
        } else if (kind < 98) {
            look();
        } else if (kind < 99) {
            decode();
            feed();
            readWhole();
        } else if (chance.nextInt(100) < resets) {
            startAgain();
        }
    }

    private void decodingCall() {
        int kind = chance.nextInt(100);
        if (kind < 75) {
            decode();
        } else if (kind < 88) {
            readWhole();
        } else if (kind < 91) {
            turn();
        } else if (kind < 94) {
            keep();
        } else if (kind < 98) {
            look();
        } else if (kind < 99) {
            encode();
            whole();
            feed();
            same("finish()", rows::finish, model::finish);
        }
    }

    private void all(int encoded, int fed, int decoded) {
        for (int k = 0; k < encoded; k++) {
            encodingCall();
        }
        same("finish()", rows::finish, model::finish);
        for (int k = 0; k < fed; k++) {
            feed();
        }
        for (int k = 0; k < decoded; k++) {
            decodingCall();
        }
        for (int i = 0; Check.of(lookAt(i)) instanceof Integer; i++) {
            int at = i;
            same("byteAt(" + i + ")", () -> rows.byteAt(at), () -> model.byteAt(at));
        }
        for (int x = 0; x < contexts; x++) {
            int at = x;
            same("state(0, " + x + ")", () -> rows.state(0, at), () -> model.state(0, at));
            same("state(1, " + x + ")", () -> rows.state(1, at), () -> model.state(1, at));
        }
    }

    private Check.Call lookAt(int i) {
        return () -> model.byteAt(i);
    }

    public static void main(String[] args) {
        int run = 0;
        for (int k = 0; k < 400; k++, run++) {
            ModelTest test = new ModelTest(run, 1 + k % 4, 10);
            test.all(k % 300, k % 3 == 0 ? k % 40 : 0, 210);
            test.startAgain();
            test.all(100, k % 7, 100);
        }
        // Far beyond 512 calls, where nothing is promised, but where the rare states of the table are met.
        for (int k = 0; k < 10; k++, run++) {
            new ModelTest(run, 1 + k % 2, 0).all(6000, k, 6500);
        }
        Check.end();
    }
}
