import java.util.ArrayList;
import java.util.List;

/**
 * The calls that are refused (promises 2 to 10): each one by the exception that is due, the first that fits, in every
 * state that it is refused in; and none of them changes anything.
 */
public final class RefusalsTest {
    private static final int LEAST = Integer.MIN_VALUE;
    private static final int LARGEST = Integer.MAX_VALUE;
    private static final Class<?> INDEX = IndexOutOfBoundsException.class;
    private static final Class<?> STATE = IllegalStateException.class;
    private static final Class<?> NUMBER = IllegalArgumentException.class;

    private enum When {
        ALWAYS, ENCODING, DECODING, UNREAD, READ, SIX_KEPT
    }

    private interface Step {
        Object of(ArithmeticRows x);
    }

    private record Refused(String name, When when, Class<?> due, Step step) {
    }

    private record Named(String name, Step step) {
    }

    private static final int[] NO_CONTEXTS = {-1, 2, LEAST, LARGEST};
    private static final int[] NO_SETS = {-1, 8, LEAST, LARGEST};
    private static final int[] NO_BITS = {-1, 2, LEAST, LARGEST};
    private static final int[] NO_BYTES = {-1, 256, LEAST, LARGEST};

    private static final List<Refused> REFUSED = new ArrayList<>();

    private static void add(String name, When when, Class<?> due, Step step) {
        REFUSED.add(new Refused(name, when, due, step));
    }

    private static void encodes() {
        for (int c : NO_CONTEXTS) {
            add("encode(" + c + ", 0)", When.ALWAYS, INDEX, x -> x.encode(c, 0));
            add("encode(" + c + ", 2)", When.ALWAYS, INDEX, x -> x.encode(c, 2));
        }
        for (int b : NO_BITS) {
            add("encode(0, " + b + ")", When.ENCODING, NUMBER, x -> x.encode(0, b));
            add("encode(1, " + b + ")", When.DECODING, STATE, x -> x.encode(1, b));
        }
        add("encode(0, 1)", When.DECODING, STATE, x -> x.encode(0, 1));
    }

    private static void decodes() {
        for (int c : NO_CONTEXTS) {
            add("decode(" + c + ")", When.ALWAYS, INDEX, x -> x.decode(c));
        }
        add("decode(0)", When.ENCODING, STATE, x -> x.decode(0));
        add("finish()", When.DECODING, STATE, ArithmeticRows::finish);
    }

    private static void wholes() {
        for (int s : NO_SETS) {
            add("whole(" + s + ", 5)", When.ALWAYS, INDEX, x -> x.whole(s, 5));
            add("readWhole(" + s + ")", When.ALWAYS, INDEX, x -> x.readWhole(s));
        }
        add("whole(0, 5)", When.DECODING, STATE, x -> x.whole(0, 5));
        add("whole(7, least)", When.DECODING, STATE, x -> x.whole(7, LEAST));
        add("readWhole(0)", When.ENCODING, STATE, x -> x.readWhole(0));
        add("readWhole(7)", When.ENCODING, STATE, x -> x.readWhole(7));
    }

    private static void feeds() {
        for (int b : NO_BYTES) {
            add("feed(" + b + ")", When.ENCODING, STATE, x -> x.feed(b));
            add("feed(" + b + ")", When.UNREAD, NUMBER, x -> x.feed(b));
            add("feed(" + b + ")", When.READ, STATE, x -> x.feed(b));
        }
        add("feed(0)", When.ENCODING, STATE, x -> x.feed(0));
        add("feed(255)", When.ENCODING, STATE, x -> x.feed(255));
        add("feed(0)", When.READ, STATE, x -> x.feed(0));
        add("feed(255)", When.READ, STATE, x -> x.feed(255));
    }

    private static void looks() {
        int[] none = {-1, 2, LEAST, LARGEST};
        for (int n : none) {
            add("state(" + n + ", 0)", When.ALWAYS, INDEX, x -> x.state(n, 0));
            add("state(0, " + n + ")", When.ALWAYS, INDEX, x -> x.state(0, n));
            add("state(1, " + n + ")", When.ALWAYS, INDEX, x -> x.state(1, n));
            add("state(" + n + ", " + n + ")", When.ALWAYS, INDEX, x -> x.state(n, n));
        }
        add("byteAt(-1)", When.ALWAYS, INDEX, x -> x.byteAt(-1));
        add("byteAt(least)", When.ALWAYS, INDEX, x -> x.byteAt(LEAST));
        add("byteAt(largest)", When.ALWAYS, INDEX, x -> x.byteAt(LARGEST));
        add("byteAt(one too far)", When.ALWAYS, INDEX, x -> x.byteAt(Play.length(x)));
        add("save()", When.SIX_KEPT, STATE, ArithmeticRows::save);
    }

    private static Named step(String name, Step step) {
        return new Named(name, step);
    }

    /** Goes through all states: segments of both sorts, six kept, bytes fed, segments read, and past the end. */
    private static final List<Named> RUN = List.of(
        step("encode(0, 1)", x -> x.encode(0, 1)),
        step("encode(1, 0)", x -> x.encode(1, 0)),
        step("whole(0, -25)", x -> x.whole(0, -25)),
        step("save()", ArithmeticRows::save),
        step("encode(0, 0)", x -> x.encode(0, 0)),
        step("raw(true)", x -> x.raw(true)),
        step("encode(1, 1)", x -> x.encode(1, 1)),
        step("whole(7, 340)", x -> x.whole(7, 340)),
        step("save()", ArithmeticRows::save),
        step("raw(false)", x -> x.raw(false)),
        step("encode(1, 1)", x -> x.encode(1, 1)),
        step("whole(7, 340)", x -> x.whole(7, 340)),
        step("finish()", ArithmeticRows::finish),
        step("feed(255)", x -> x.feed(255)),
        step("feed(0)", x -> x.feed(0)),
        step("decode(0)", x -> x.decode(0)),
        step("save()", ArithmeticRows::save),
        step("decode(1)", x -> x.decode(1)),
        step("readWhole(0)", x -> x.readWhole(0)),
        step("decode(0)", x -> x.decode(0)),
        step("save()", ArithmeticRows::save),
        step("save()", ArithmeticRows::save),
        step("save()", ArithmeticRows::save),
        step("raw(true)", x -> x.raw(true)),
        step("decode(0)", x -> x.decode(0)),
        step("back(1)", x -> x.back(1)),
        step("readWhole(7)", x -> x.readWhole(7)),
        step("raw(false)", x -> x.raw(false)),
        step("decode(1)", x -> x.decode(1)),
        step("readWhole(7)", x -> x.readWhole(7)),
        step("back(5)", x -> x.back(5)),
        step("readWhole(7)", x -> x.readWhole(7)));
    private static final int FINISH = 12;
    private static final int FIRST_READ = 15;
    private static final int SIXTH_KEPT = 22;

    /** Whether it is due, behind so many steps. */
    private static boolean isDue(When when, int steps) {
        boolean encoding = steps <= FINISH;
        boolean read = steps > FIRST_READ;
        return switch (when) {
            case ALWAYS -> true;
            case ENCODING -> encoding;
            case DECODING -> !encoding;
            case UNREAD -> !encoding && !read;
            case READ -> read;
            case SIX_KEPT -> steps > SIXTH_KEPT;
        };
    }

    private static String told(ArithmeticRows x) {
        return x.state(0, 0) + " " + x.state(0, 1) + " " + x.state(1, 0) + " " + x.state(1, 1) + " " + x.beyond();
    }

    private static void refuse(Refused refused, ArithmeticRows x, int steps) {
        if (isDue(refused.when, steps)) {
            Check.due(refused.name + " behind " + steps + " steps", Check.of(() -> refused.step.of(x)), refused.due);
        }
    }

    /** Two objects go through the run; one of them is asked between the steps for what is refused. */
    private static void runWith(Refused refused) {
        ArithmeticRows x = new ArithmeticRows(2);
        ArithmeticRows y = new ArithmeticRows(2);
        for (int k = 0; k < RUN.size(); k++) {
            refuse(refused, x, k);
            Named step = RUN.get(k);
            String what = refused.name + " refused before step " + k + ", " + step.name;
            Check.due(what, Check.of(() -> step.step.of(x)), Check.of(() -> step.step.of(y)));
            Check.due(what + ": states and beyond", told(x), told(y));
        }
        refuse(refused, x, RUN.size());
        Check.due(refused.name + ": the row", Play.row(x), Play.row(y));
        Check.due(refused.name + ": past the end", Play.readRound(x, 2, 40), Play.readRound(y, 2, 40));
    }

    /** What was read is what was put: the run itself is as it should be. */
    private static void runAlone() {
        ArithmeticRows x = new ArithmeticRows(2);
        StringBuilder answers = new StringBuilder();
        for (Named step : RUN) {
            answers.append(step.step.of(x)).append(' ');
        }
        Check.due("the run", answers.toString(), "0 0 10 0 1 true 2 18 1 true 5 18 7 true true"
            + " 1 2 0 -25 0 3 4 5 true 1 true 340 true 1 340 true -2 ");
    }

    /** A first segment that was left with nothing read: it is too late to feed, whatever the byte. */
    private static void feedWithTheSegmentLeft() {
        ArithmeticRows x = Play.rawToRead("1");
        Check.notNow("left: feed(0)", () -> x.feed(0));
        Check.notNow("left: feed(256)", () -> x.feed(256));
        Check.due("left: the row", Play.row(x), "ff7faa");
        Check.due("left: the bits", Play.readBits(x, 9), "101010101");
    }

    /** Reset makes what was refused due again, and the other way round. */
    private static void behindReset() {
        ArithmeticRows x = Play.coded(2, "aB");
        x.finish();
        x.reset();
        Check.notNow("reset: decode(0)", () -> x.decode(0));
        Check.notNow("reset: readWhole(0)", () -> x.readWhole(0));
        Check.notNow("reset: feed(0)", () -> x.feed(0));
        Check.due("reset: encode(0, 0)", Check.of(() -> x.encode(0, 0)), 0);
        Check.due("reset: whole(0, 0)", Check.of(() -> x.whole(0, 0)), 4);
        Check.due("reset: finish()", Check.of(x::finish) instanceof Integer, true);
        Check.due("reset: feed(0)", Check.of(() -> x.feed(0)), true);
    }

    public static void main(String[] args) {
        encodes();
        decodes();
        wholes();
        feeds();
        looks();
        runAlone();
        for (Refused refused : REFUSED) {
            runWith(refused);
        }
        feedWithTheSegmentLeft();
        behindReset();
        Check.end();
    }
}
