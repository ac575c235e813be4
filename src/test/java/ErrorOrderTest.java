import java.util.Arrays;

/** Promise 14, and the order of errors in promises 6, 8, 9 and 11: which error a call makes, and which one is kept. */
public final class ErrorOrderTest {
    private static final int LEAST = Integer.MIN_VALUE;
    private static final int MOST = Integer.MAX_VALUE;
    private static final Checks checks = new Checks();

    public static void main(String[] args) {
        enumComesBeforeValue();
        valueComesBeforeRoom();
        enumComesBeforeRoom();
        roomIsTheLast();
        allNumbersWrong();
        noErrorAtFirst();
        theFirstOneIsKept();
        askingForgetsIt();
        goodCallsLeaveIt();
        readingCallsLeaveIt();
        readingCallsMakeNone();
        checks.end();
    }

    private static PixelPipe full() {
        PixelPipe pipe = new PixelPipe();
        for (int n = 0; n < 10; n++) {
            pipe.step(0, 0, 0, 0);
        }
        return pipe;
    }

    private static void refused(PixelPipe pipe, Call call, int kind) {
        checks.due(call.toString(), call.on(pipe), call.refusal());
        checks.due(call + ", then error()", pipe.error(), kind);
        checks.due(call + ", then error() again", pipe.error(), 0);
    }

    private static void enumComesBeforeValue() {
        PixelPipe pipe = new PixelPipe();
        for (int none : new int[] {-1, LEAST, 12, MOST}) {
            for (int v : new int[] {-1, 16, LEAST, MOST}) {
                refused(pipe, new Call("set", none, v), PixelPipe.ENUM);
                refused(pipe, new Call("clear", none, v), PixelPipe.ENUM);
                refused(pipe, new Call("step", none, v, v, v), PixelPipe.ENUM);
                refused(pipe, new Call("draw", none, v, v), PixelPipe.ENUM);
            }
        }
        refused(pipe, new Call("clear", 3, -1), PixelPipe.ENUM);
        refused(pipe, new Call("step", 10, 8, 8, 8), PixelPipe.ENUM);
        refused(pipe, new Call("draw", 4, 24, 1), PixelPipe.ENUM);
    }

    private static void valueComesBeforeRoom() {
        PixelPipe pipe = full();
        for (int op = 0; op < 10; op++) {
            for (int place = 1; place <= 3; place++) {
                if (Ranges.isRegister(op, place)) {
                    refused(pipe, new Call("step", op, 0, 0, 0).with(place, 8), PixelPipe.VALUE);
                    refused(pipe, new Call("step", op, 7, 7, 7).with(place, -1), PixelPipe.VALUE);
                }
            }
        }
    }

    private static void enumComesBeforeRoom() {
        PixelPipe pipe = full();
        for (int none : new int[] {-1, 10, LEAST, MOST}) {
            refused(pipe, new Call("step", none, 0, 0, 0), PixelPipe.ENUM);
            refused(pipe, new Call("step", none, 8, 8, 8), PixelPipe.ENUM);
        }
    }

    /** A number that a step doesn't use is no error, so that it does not hide that there is no room. */
    private static void roomIsTheLast() {
        PixelPipe pipe = full();
        for (int op = 0; op < 10; op++) {
            for (int place = 1; place <= 3; place++) {
                int[] good = Ranges.isRegister(op, place) ? new int[] {0, 7} : new int[] {-1, 8, LEAST, MOST};
                for (int v : good) {
                    refused(pipe, new Call("step", op, 0, 0, 0).with(place, v), PixelPipe.ROOM);
                }
            }
        }
    }

    private static void allNumbersWrong() {
        PixelPipe pipe = new PixelPipe();
        for (int v : new int[] {LEAST, MOST}) {
            refused(pipe, new Call("vertex", v, v, v, v, v), PixelPipe.VALUE);
            refused(pipe, new Call("paint", v, v, v, v, v), PixelPipe.VALUE);
            refused(pipe, new Call("coords", v, v, v), PixelPipe.VALUE);
            refused(pipe, new Call("texel", v, v, v), PixelPipe.VALUE);
            refused(pipe, new Call("scissor", v, v, v, v), PixelPipe.VALUE);
            refused(pipe, new Call("keep", v), PixelPipe.VALUE);
            refused(pipe, new Call("draw", 0, v, v), PixelPipe.VALUE);
        }
    }

    private static void noErrorAtFirst() {
        PixelPipe pipe = new PixelPipe();
        checks.due("error() of a new object", pipe.error(), 0);
        checks.due("error() once more", pipe.error(), 0);
    }

    /** Makes an error of a kind, on an object whose program is full. */
    private static void fail(PixelPipe pipe, int kind) {
        if (kind == PixelPipe.ENUM) {
            pipe.set(12, 0);
        } else if (kind == PixelPipe.VALUE) {
            pipe.vertex(0, 801, 0, 0, 1);
        } else {
            pipe.step(0, 0, 0, 0);
        }
    }

    private static void theFirstOneIsKept() {
        for (int first = 1; first <= 3; first++) {
            for (int second = 1; second <= 3; second++) {
                for (int third = 1; third <= 3; third++) {
                    PixelPipe pipe = full();
                    fail(pipe, first);
                    fail(pipe, second);
                    fail(pipe, third);
                    String told = "error() after " + Arrays.toString(new int[] {first, second, third});
                    checks.due(told, pipe.error(), first);
                    checks.due(told + " again", pipe.error(), 0);
                }
            }
        }
    }

    private static void askingForgetsIt() {
        PixelPipe pipe = full();
        for (int first = 1; first <= 3; first++) {
            for (int second = 1; second <= 3; second++) {
                fail(pipe, first);
                checks.due("the first error", pipe.error(), first);
                fail(pipe, second);
                checks.due("the next error after " + first, pipe.error(), second);
                checks.due("no error then", pipe.error(), 0);
            }
        }
    }

    private static void goodCallsLeaveIt() {
        for (int kind = 1; kind <= 3; kind++) {
            PixelPipe pipe = full();
            fail(pipe, kind);
            checks.due("vertex", pipe.vertex(0, 0, 0, 0, 1), true);
            checks.due("paint", pipe.paint(0, 1, 2, 3, 4), true);
            checks.due("coords", pipe.coords(0, 5, 6), true);
            checks.due("texel", pipe.texel(0, 0, 7), true);
            checks.due("set", pipe.set(0, 7), true);
            checks.due("scissor", pipe.scissor(0, 0, 24, 16), true);
            checks.due("clear", pipe.clear(0, 0), true);
            checks.due("keep", pipe.keep(3), true);
            checks.due("step", pipe.step(0, 0, 0, 0), 4);
            checks.due("draw", pipe.draw(0, 0, 2), 2);
            checks.due("error() after good calls", pipe.error(), kind);
        }
    }

    private static void read(PixelPipe pipe) {
        for (int v : new int[] {LEAST, -1, 0, 1, 2, 5, 6, 15, 16, 23, 24, MOST}) {
            pipe.pixel(v, 0);
            pipe.pixel(0, v);
            pipe.at(v, 0, 0);
            pipe.at(0, v, 1);
            pipe.at(0, 0, v);
            pipe.count(v);
        }
    }

    private static void readingCallsLeaveIt() {
        for (int kind = 1; kind <= 3; kind++) {
            PixelPipe pipe = full();
            fail(pipe, kind);
            read(pipe);
            checks.due("error() after pixel, at and count", pipe.error(), kind);
        }
    }

    private static void readingCallsMakeNone() {
        PixelPipe pipe = new PixelPipe();
        read(pipe);
        checks.due("error() after pixel, at and count alone", pipe.error(), 0);
    }
}
