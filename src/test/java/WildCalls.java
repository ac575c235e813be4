/** A row of calls, always the same one, whose numbers are mostly in their ranges and sometimes far from them. */
final class WildCalls {
    private static final int[] EDGES = {
        Integer.MIN_VALUE, Integer.MIN_VALUE + 1, -1001, -1000, -801, -800, -65, -1, 0, 1, 2, 3, 4, 5, 6, 7, 8, 9, 10, 11,
        12, 15, 16, 23, 24, 25, 63, 64, 65, 128, 191, 255, 256, 800, 801, 1000, 1001, 1023, 1024, 16777215, 16777216,
        Integer.MAX_VALUE - 1, Integer.MAX_VALUE};
    private static final int[] GREATEST_TO_CLEAR = {16777215, 1023, 15};

    private int state;

    WildCalls(int start) {
        state = start;
    }

    int next(int bound) {
        state = state * 1103515245 + 12345;
        return (state >>> 16) % bound;
    }

    private int wild(int least, int greatest) {
        return next(12) == 0 ? EDGES[next(EDGES.length)] : inside(least, greatest);
    }

    /** Two numbers make one, since a single one has but 16 bits. */
    private int inside(int least, int greatest) {
        int v = next(65536) * 32768 + next(32768);
        return least + (v & Integer.MAX_VALUE) % (greatest - least + 1);
    }

    /** A call that gives a vertex or a texel its numbers. */
    Call data() {
        switch (next(4)) {
            case 0:
                return new Call("vertex", wild(0, 23), wild(-60, 250), wild(-60, 190), wild(0, 1023), wild(1, 64));
            case 1:
                return new Call("paint", wild(0, 23), wild(0, 255), wild(0, 255), wild(0, 255), wild(0, 255));
            case 2:
                return new Call("coords", wild(0, 23), wild(-1000, 1000), wild(-1000, 1000));
            default:
                return new Call("texel", wild(0, 7), wild(0, 7), wild(0, 16777215));
        }
    }

    /** Any call that can be refused. */
    Call change() {
        switch (next(12)) {
            case 0:
                return data();
            case 1:
            case 2:
                return new Call("set", wild(0, 11), wild(0, 7));
            case 3:
                return new Call("scissor", wild(0, 8), wild(0, 5), wild(0, 16), wild(0, 11));
            case 4:
                int what = next(3);
                return new Call("clear", wild(what, what), wild(0, GREATEST_TO_CLEAR[what]));
            case 5:
            case 6:
                return new Call("step", wild(0, 9), wild(0, 7), wild(0, 7), wild(0, 7));
            case 7:
                return new Call("keep", wild(0, 10));
            default:
                return draw();
        }
    }

    private Call draw() {
        int count = next(13);
        return new Call("draw", wild(0, 3), wild(0, 24 - count), wild(count, count));
    }

    /** A call that only reads, but for error(), after which none is kept. */
    Call look() {
        switch (next(8)) {
            case 0:
                return new Call("error");
            case 1:
            case 2:
                return new Call("count", wild(0, 5));
            case 3:
            case 4:
                return new Call("at", wild(0, 23), wild(0, 15), wild(0, 1));
            default:
                return new Call("pixel", wild(0, 23), wild(0, 15));
        }
    }
}
