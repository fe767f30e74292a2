import java.lang.reflect.Array;
import java.lang.reflect.Field;
import java.lang.reflect.Modifier;
import java.util.IdentityHashMap;
import java.util.Map;
import java.util.Random;

/** "An object is used for at most 512 calls": the dearest runs of so many calls, and the room that they take. */
public final class LongRunsTest {
    private static final int CALLS = 512;
    private static final int MOST_OBJECTS = 600_000;
    private static final int MOST_ELEMENTS = 7_300_000;

    private static void due(String what, Object got, Object want) {
        Check.due(what, got, want);
    }

    private static int numberOf38Bits(Random chance) {
        int size = 4436 + chance.nextInt(Integer.MAX_VALUE - 4436);
        return chance.nextBoolean() ? size : -size;
    }

    /** Numbers of 38 bits by chance, as many as calls leave, and the row ends; its bytes are only looked at then. */
    private static void mostBits(boolean raw) {
        ArithmeticRows x = new ArithmeticRows(1);
        Model y = new Model(1);
        Random chance = new Random(raw ? 1 : 2);
        int calls = 1;
        if (raw) {
            due("most bits: raw(true)", x.raw(true), y.raw(true));
            calls++;
        }
        for (; calls < CALLS; calls++) {
            int set = calls % 8;
            int v = numberOf38Bits(chance);
            due("most bits: whole", x.whole(set, v), y.whole(set, v));
        }
        int length = y.finish();
        due("most bits: finish()", x.finish(), length);
        for (int i = 0; i < length; i++) {
            due("most bits: byteAt(" + i + ")", x.byteAt(i), y.byteAt(i));
        }
        Check.noContext("most bits: no byte behind them", () -> x.byteAt(length));
    }

    /** 255 numbers put and read: with finish and beyond these are 512 calls. */
    private static void numbersThereAndBack() {
        ArithmeticRows x = new ArithmeticRows(1);
        Random chance = new Random(3);
        int[] numbers = new int[255];
        for (int k = 0; k < numbers.length; k++) {
            numbers[k] = numberOf38Bits(chance);
            x.whole(k % 3, numbers[k]);
        }
        x.finish();
        for (int k = 0; k < numbers.length; k++) {
            due("there and back, number " + k, x.readWhole(k % 3), numbers[k]);
        }
        due("there and back: beyond()", x.beyond() <= 1, true);
    }

    /** Numbers are read of a row with no bits, as many as calls leave: past its end too they have answers. */
    private static void longPastTheEnd() {
        for (int first = 0; first < 2; first++) {
            ArithmeticRows x = new ArithmeticRows(1);
            Model y = new Model(1);
            due("past the end: raw", x.raw(first == 1), y.raw(first == 1));
            due("past the end: finish()", x.finish(), y.finish());
            due("past the end: on", x.raw(true), y.raw(true));
            for (int calls = 3; calls < CALLS - 1; calls++) {
                int set = calls % 2;
                due("past the end: readWhole", x.readWhole(set), y.readWhole(set));
            }
            due("past the end: beyond()", x.beyond(), y.beyond());
        }
    }

    /** 510 feedings, and a bit is read: the row has 512 bytes. */
    private static void mostFed() {
        ArithmeticRows x = new ArithmeticRows(1);
        Model y = new Model(1);
        due("most fed: finish()", x.finish(), y.finish());
        for (int calls = 1; calls < CALLS - 1; calls++) {
            int b = calls * 7 % 256;
            due("most fed: feed", x.feed(b), y.feed(b));
        }
        due("most fed: decode(0)", x.decode(0), y.decode(0));
        due("most fed: the last byte", x.byteAt(511), 510 * 7 % 256);
    }

    /** 255 segments begun and gone through: with finish and a bit these are 512 calls. */
    private static void segmentsThereAndBack() {
        ArithmeticRows x = new ArithmeticRows(1);
        for (int k = 1; k <= 255; k++) {
            due("segments: raw, ENCODING", x.raw(k % 2 == 1), true);
        }
        due("segments: finish()", x.finish(), 256);
        for (int k = 1; k <= 255; k++) {
            due("segments: raw, DECODING", x.raw(k % 2 == 1), true);
        }
        due("segments: a bit of the last one", x.decode(0), 1);
    }

    // The room: what an object holds, and that it holds the same arrays behind calls.

    private static boolean isOurs(Class<?> type) {
        return type == ArithmeticRows.class || type.getEnclosingClass() == ArithmeticRows.class;
    }

    /** Adds all objects and arrays that it holds, with how many fields or elements each of them has. */
    private static void walk(Object holder, Map<Object, Integer> held) throws IllegalAccessException {
        if (holder == null || held.containsKey(holder)) {
            return;
        }
        if (holder.getClass().isArray()) {
            held.put(holder, Array.getLength(holder));
            return;
        }
        due(holder.getClass() + " is a class of the file", isOurs(holder.getClass()), true);
        held.put(holder, holder.getClass().getDeclaredFields().length);
        for (Field f : holder.getClass().getDeclaredFields()) {
            if (!f.getType().isPrimitive() && !Modifier.isStatic(f.getModifiers())) {
                f.setAccessible(true);
                walk(f.get(holder), held);
            }
        }
    }

    private static Map<Object, Integer> heldBy(ArithmeticRows x) throws IllegalAccessException {
        Map<Object, Integer> held = new IdentityHashMap<>();
        walk(x, held);
        return held;
    }

    private static void useAll(ArithmeticRows x) {
        for (int k = 0; k < 6; k++) {
            x.encode(k, 1);
            x.save();
            x.back(k / 2);
            x.whole(k, 5000 * k);
            x.raw(k % 2 == 0);
            x.encode(k, 0);
        }
        x.finish();
        x.feed(3);
        for (int k = 0; k < 6; k++) {
            x.decode(k);
            x.readWhole(k);
            x.back(k);
            x.raw(k % 2 == 0);
        }
        x.reset();
    }

    private static void room() throws IllegalAccessException {
        ArithmeticRows x = new ArithmeticRows(65536);
        Map<Object, Integer> before = heldBy(x);
        long elements = 0;
        for (int count : before.values()) {
            elements += count;
        }
        due("few objects", before.size() < MOST_OBJECTS / 100, true);
        due("few elements", elements < MOST_ELEMENTS / 10, true);
        for (int k = 0; k < 8; k++) {
            useAll(x);
        }
        Map<Object, Integer> after = heldBy(x);
        due("as many objects", after.size(), before.size());
        for (Object held : after.keySet()) {
            due("it was there before: " + held.getClass(), before.get(held), after.get(held));
        }
    }

    public static void main(String[] args) throws IllegalAccessException {
        mostBits(false);
        mostBits(true);
        numbersThereAndBack();
        longPastTheEnd();
        mostFed();
        segmentsThereAndBack();
        room();
        Check.end();
    }
}
