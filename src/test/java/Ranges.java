import java.util.ArrayList;
import java.util.List;

/** The ranges that the document names: one for each number of each call that can be refused. */
final class Ranges {
    private static final int VALUE = PixelPipe.VALUE;
    private static final int ENUM = PixelPipe.ENUM;

    /** How many steps the program has where a range does not depend on it. */
    static final int SOME_STEPS = 4;
    static final int MOST_STEPS = 10;
    private static final int[] GREATEST_OF_SETTING = {7, 1, 7, 15, 5, 5, 5, 4, 7, 2, 2, 1};
    private static final int[] GREATEST_TO_CLEAR = {16777215, 1023, 15};

    private final List<Range> all = new ArrayList<>();

    private Ranges() {
    }

    /** The number at a place of the call may be from least to greatest, when the program has so many steps. */
    record Range(int steps, Call call, int place, int least, int greatest, int kind) {
        int[] inside() {
            return new int[] {least, Math.min(least + 1, greatest), Math.max(greatest - 1, least), greatest};
        }

        /** Just outside, and far outside. */
        int[] outside() {
            return new int[] {least - 1, greatest + 1, Integer.MIN_VALUE, Integer.MAX_VALUE};
        }
    }

    static List<Range> all() {
        Ranges ranges = new Ranges();
        ranges.vertexData();
        ranges.settings();
        ranges.scissor();
        ranges.clear();
        ranges.steps();
        ranges.draw();
        return ranges.all;
    }

    private void value(Call call, int place, int least, int greatest) {
        all.add(new Range(SOME_STEPS, call, place, least, greatest, VALUE));
    }

    private void kind(Call call, int least, int greatest) {
        all.add(new Range(SOME_STEPS, call, 0, least, greatest, ENUM));
    }

    private void vertexData() {
        Call vertex = new Call("vertex", 5, 10, 20, 30, 7);
        value(vertex, 0, 0, 23);
        value(vertex, 1, -800, 800);
        value(vertex, 2, -800, 800);
        value(vertex, 3, 0, 1023);
        value(vertex, 4, 1, 64);
        Call paint = new Call("paint", 6, 11, 12, 13, 14);
        value(paint, 0, 0, 23);
        for (int place = 1; place <= 4; place++) {
            value(paint, place, 0, 255);
        }
        Call coords = new Call("coords", 7, 15, 16);
        value(coords, 0, 0, 23);
        value(coords, 1, -1000, 1000);
        value(coords, 2, -1000, 1000);
        Call texel = new Call("texel", 3, 4, 123456);
        value(texel, 0, 0, 7);
        value(texel, 1, 0, 7);
        value(texel, 2, 0, 16777215);
    }

    private void settings() {
        kind(new Call("set", 0, 0), 0, 11);
        for (int setting = 0; setting < 12; setting++) {
            value(new Call("set", setting, 0), 1, 0, GREATEST_OF_SETTING[setting]);
        }
    }

    /** Each side with each way in which the other one of its direction may stand. */
    private void scissor() {
        for (int w : new int[] {0, 1, 12, 23, 24}) {
            value(new Call("scissor", 0, 2, w, 3), 0, 0, 24 - w);
        }
        for (int h : new int[] {0, 1, 8, 15, 16}) {
            value(new Call("scissor", 2, 0, 3, h), 1, 0, 16 - h);
        }
        for (int x : new int[] {0, 1, 12, 23, 24}) {
            value(new Call("scissor", x, 2, 0, 3), 2, 0, 24 - x);
        }
        for (int y : new int[] {0, 1, 8, 15, 16}) {
            value(new Call("scissor", 2, y, 3, 0), 3, 0, 16 - y);
        }
    }

    private void clear() {
        kind(new Call("clear", 0, 5), 0, 2);
        for (int what = 0; what < 3; what++) {
            value(new Call("clear", what, 0), 1, 0, GREATEST_TO_CLEAR[what]);
        }
    }

    private void steps() {
        kind(new Call("step", 0, 1, 2, 3), 0, 9);
        for (int op = 0; op < 10; op++) {
            Call step = new Call("step", op, 1, 2, 3);
            for (int place = 1; place <= 3; place++) {
                if (isRegister(op, place)) {
                    value(step, place, 0, 7);
                }
            }
        }
        for (int steps = 0; steps <= MOST_STEPS; steps++) {
            all.add(new Range(steps, new Call("keep", 0), 0, 0, steps, VALUE));
        }
    }

    /** Whether a step uses d, a or b (its numbers 1, 2, 3) as a register. */
    static boolean isRegister(int op, int place) {
        boolean usesA = op != 8;
        boolean usesB = op >= 1 && op <= 7;
        boolean usesD = op != 9;
        return place == 1 ? usesD : place == 2 ? usesA : usesB;
    }

    private void draw() {
        kind(new Call("draw", 0, 1, 6), 0, 3);
        for (int mode = 0; mode < 4; mode++) {
            for (int n : new int[] {0, 1, 12, 23, 24}) {
                value(new Call("draw", mode, 0, n), 1, 0, 24 - n);
                value(new Call("draw", mode, n, 0), 2, 0, 24 - n);
            }
        }
    }
}
