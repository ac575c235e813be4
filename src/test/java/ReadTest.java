/** Promises 12 to 15: pixel, at, error and count (and promise 16: the reading calls make no error). */
public final class ReadTest {
    private static final int LEAST = Integer.MIN_VALUE;
    private static final int MOST = Integer.MAX_VALUE;
    private static final Checks checks = new Checks();

    public static void main(String[] args) {
        pixelsAreApart();
        outside();
        firstErrorIsKept();
        errorsOfEachCall();
        countsOfEachKind();
        countsOfTheLatestDraw();
        coveredTwiceCountsTwice();
        checks.end();
    }

    private static void pixelsAreApart() {
        PixelPipe pipe = new PixelPipe();
        for (int n = 0; n < 12; n++) {
            int x = n * 2 + n % 2;
            int y = (n * 5) % 16;
            pipe.scissor(x, y, 1, 1);
            pipe.clear(0, 1000 + n);
            pipe.clear(1, 100 + n);
            pipe.clear(2, 1 + n);
        }
        for (int n = 0; n < 12; n++) {
            int x = n * 2 + n % 2;
            int y = (n * 5) % 16;
            checks.due("pixel(" + x + ", " + y + ")", pipe.pixel(x, y), 1000 + n);
            checks.due("at(" + x + ", " + y + ", 0)", pipe.at(x, y, 0), 100 + n);
            checks.due("at(" + x + ", " + y + ", 1)", pipe.at(x, y, 1), 1 + n);
        }
        pipe.scissor(0, 0, 24, 16);
        pipe.clear(0, 16777215);
        checks.due("white", pipe.pixel(23, 15), 16777215);
    }

    private static void outside() {
        PixelPipe pipe = new PixelPipe();
        int[][] places = {
            {-1, 0}, {24, 0}, {0, -1}, {0, 16}, {24, 16}, {-1, 1}, {24, -1}, {LEAST, 0}, {MOST, 0}, {0, LEAST}, {0, MOST},
            {MOST, MOST}, {LEAST, LEAST}};
        for (int[] n : places) {
            checks.due("pixel" + java.util.Arrays.toString(n), pipe.pixel(n[0], n[1]), -1);
            checks.due("at 0" + java.util.Arrays.toString(n), pipe.at(n[0], n[1], 0), -1);
            checks.due("at 1" + java.util.Arrays.toString(n), pipe.at(n[0], n[1], 1), -1);
        }
        int[] whats = {-1, 2, LEAST, MOST};
        for (int what : whats) {
            checks.due("at(0, 0, " + what + ")", pipe.at(0, 0, what), -1);
        }
        int[] counts = {-1, 6, 7, LEAST, MOST};
        pipe.draw(0, 0, 3);
        for (int what : counts) {
            checks.due("count(" + what + ")", pipe.count(what), 0);
        }
        checks.due("error() after all of them", pipe.error(), 0);
    }

    private static void firstErrorIsKept() {
        PixelPipe pipe = new PixelPipe();
        pipe.set(12, 0);
        pipe.set(0, 8);
        pipe.set(0, 3);
        pipe.pixel(-1, -1);
        checks.due("ENUM, then VALUE", pipe.error(), PixelPipe.ENUM);
        checks.due("none is kept then", pipe.error(), 0);
        pipe.set(0, 8);
        pipe.set(12, 0);
        checks.due("VALUE, then ENUM", pipe.error(), PixelPipe.VALUE);
        for (int n = 0; n < 11; n++) {
            pipe.step(0, 0, 0, 0);
        }
        pipe.set(12, 0);
        checks.due("ROOM, then ENUM", pipe.error(), PixelPipe.ROOM);
        checks.due("none is kept then", pipe.error(), 0);
    }

    private static void errorsOfEachCall() {
        PixelPipe pipe = new PixelPipe();
        checks.refused("vertex", pipe, pipe.vertex(24, 0, 0, 0, 1), PixelPipe.VALUE);
        checks.refused("paint", pipe, pipe.paint(0, 0, 0, 0, -1), PixelPipe.VALUE);
        checks.refused("coords", pipe, pipe.coords(0, 0, 1001), PixelPipe.VALUE);
        checks.refused("texel", pipe, pipe.texel(0, 8, 0), PixelPipe.VALUE);
        checks.refused("set", pipe, pipe.set(-1, 0), PixelPipe.ENUM);
        checks.refused("scissor", pipe, pipe.scissor(0, 0, 0, -1), PixelPipe.VALUE);
        checks.refused("clear", pipe, pipe.clear(3, 0), PixelPipe.ENUM);
        checks.refused("step", pipe, pipe.step(10, 0, 0, 0), PixelPipe.ENUM);
        checks.refused("keep", pipe, pipe.keep(1), PixelPipe.VALUE);
        checks.refused("draw", pipe, pipe.draw(4, 0, 0), PixelPipe.ENUM);
    }

    /** Four points: one is killed, one stopped by the stencil, one by the depth, one passes. */
    private static void countsOfEachKind() {
        PixelPipe pipe = new PixelPipe();
        for (int i = 0; i < 9; i++) {
            Scenes.point(pipe, i, i, 0, 50);
        }
        pipe.coords(0, -1, 0);
        pipe.coords(1, -1, 0);
        pipe.coords(2, -1, 0);
        pipe.vertex(8, -1, 0, 0, 1);
        pipe.step(9, 0, 4, 0);
        pipe.scissor(3, 0, 1, 1);
        pipe.clear(2, 1);
        pipe.scissor(4, 0, 2, 1);
        pipe.clear(1, 50);
        pipe.scissor(0, 0, 24, 16);
        pipe.set(2, 2);
        pipe.set(0, 1);
        checks.due("nine points", pipe.draw(0, 0, 9), 2);
        int[] want = {8, 3, 1, 2, 2, 9};
        for (int what = 0; what < 6; what++) {
            checks.due("count(" + what + ") of nine points", pipe.count(what), want[what]);
        }
    }

    private static void countsOfTheLatestDraw() {
        PixelPipe pipe = new PixelPipe();
        Scenes.eighths(pipe, 0, 0, 0);
        pipe.draw(1, 0, 3);
        checks.due("count(0) of a triangle", pipe.count(0), 36);
        checks.due("count(5) of a triangle", pipe.count(5), 1);
        pipe.draw(0, 0, 2);
        checks.due("count(0) of two points", pipe.count(0), 2);
        checks.due("count(5) of two points", pipe.count(5), 2);
        pipe.draw(5, 0, 2);
        pipe.clear(0, 0);
        checks.due("count(0) after a draw that was an error", pipe.count(0), 2);
        pipe.draw(1, 0, 0);
        for (int what = 0; what < 6; what++) {
            checks.due("count(" + what + ") of no vertices", pipe.count(what), 0);
        }
    }

    private static void coveredTwiceCountsTwice() {
        PixelPipe pipe = new PixelPipe();
        Scenes.eighths(pipe, 0, 0, 0);
        pipe.vertex(3, 4, 4, 0, 1);
        pipe.vertex(4, 68, 4, 0, 1);
        pipe.vertex(5, 4, 68, 0, 1);
        checks.due("the same triangle twice", pipe.draw(1, 0, 6), 72);
        checks.due("count(0)", pipe.count(0), 72);
        checks.due("count(5)", pipe.count(5), 2);
    }
}
