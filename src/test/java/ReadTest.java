/** Promises 12, 13 and 15: pixel, at and count (that they make no error, as promise 16 has it, is in ErrorOrderTest). */
public final class ReadTest {
    private static final int LEAST = Integer.MIN_VALUE;
    private static final int MOST = Integer.MAX_VALUE;
    private static final Checks checks = new Checks();

    public static void main(String[] args) {
        pixelsAreApart();
        cornersOfTheScreen();
        outsideOfTheScreen();
        anotherWhatOfAt();
        anotherWhatOfCount();
        countsBeforeTheFirstDraw();
        countsOfEachKind();
        countsOfTheLatestDraw();
        countsAfterADrawThatWasAnError();
        countsOfNoVertices();
        countOfWhatWasDrawn();
        coveredTwiceCountsTwice();
        checks.end();
    }

    private static void pixelsAreApart() {
        PixelPipe pipe = new PixelPipe();
        for (int n = 0; n < 12; n++) {
            int x = n * 2 + n % 2;
            int y = (n * 5) % 16;
            pipe.scissor(x, y, 1, 1);
            pipe.clear(0, 1000 + n);
            pipe.clear(1, 100 + n);
            pipe.clear(2, 1 + n);
        }
        for (int n = 0; n < 12; n++) {
            int x = n * 2 + n % 2;
            int y = (n * 5) % 16;
            checks.due("pixel(" + x + ", " + y + ")", pipe.pixel(x, y), 1000 + n);
            checks.due("at(" + x + ", " + y + ", 0)", pipe.at(x, y, 0), 100 + n);
            checks.due("at(" + x + ", " + y + ", 1)", pipe.at(x, y, 1), 1 + n);
        }
    }

    private static void cornersOfTheScreen() {
        PixelPipe pipe = new PixelPipe();
        pipe.clear(0, 16777215);
        pipe.clear(1, 0);
        pipe.clear(2, 15);
        for (int x : new int[] {0, 1, 22, 23}) {
            for (int y : new int[] {0, 1, 14, 15}) {
                checks.due("pixel(" + x + ", " + y + ")", pipe.pixel(x, y), 16777215);
                checks.due("at(" + x + ", " + y + ", 0)", pipe.at(x, y, 0), 0);
                checks.due("at(" + x + ", " + y + ", 1)", pipe.at(x, y, 1), 15);
            }
        }
    }

    private static void outsideOfTheScreen() {
        PixelPipe pipe = new PixelPipe();
        int[] inX = {0, 5, 23};
        int[] inY = {0, 5, 15};
        int[] outX = {-1, 24, LEAST, MOST, 1 << 29, -(1 << 29)};
        int[] outY = {-1, 16, LEAST, MOST, 1 << 29, -(1 << 29)};
        for (int x : outX) {
            for (int y : inY) {
                isOutside(pipe, x, y);
            }
            isOutside(pipe, x, outY[0]);
            isOutside(pipe, x, outY[3]);
        }
        for (int y : outY) {
            for (int x : inX) {
                isOutside(pipe, x, y);
            }
        }
        // One step beyond a row is the beginning of the next one, if the place is not looked at.
        isOutside(pipe, 24, 3);
        isOutside(pipe, -1, 3);
        isOutside(pipe, 48, -1);
    }

    private static void isOutside(PixelPipe pipe, int x, int y) {
        String where = x + ", " + y;
        checks.due("pixel(" + where + ")", pipe.pixel(x, y), -1);
        checks.due("at(" + where + ", 0)", pipe.at(x, y, 0), -1);
        checks.due("at(" + where + ", 1)", pipe.at(x, y, 1), -1);
        checks.due("at(" + where + ", 2)", pipe.at(x, y, 2), -1);
    }

    private static void anotherWhatOfAt() {
        PixelPipe pipe = new PixelPipe();
        for (int what : new int[] {-1, 2, 3, LEAST, MOST}) {
            checks.due("at(0, 0, " + what + ")", pipe.at(0, 0, what), -1);
            checks.due("at(23, 15, " + what + ")", pipe.at(23, 15, what), -1);
        }
    }

    private static void anotherWhatOfCount() {
        PixelPipe pipe = new PixelPipe();
        pipe.draw(0, 0, 3);
        for (int what : new int[] {-1, 6, 7, LEAST, MOST}) {
            checks.due("count(" + what + ")", pipe.count(what), 0);
        }
        checks.due("count(0)", pipe.count(0), 3);
        checks.due("count(5)", pipe.count(5), 3);
    }

    private static void allCounts(String told, PixelPipe pipe, int... want) {
        for (int what = 0; what < 6; what++) {
            checks.due("count(" + what + ") " + told, pipe.count(what), want[what]);
        }
    }

    private static void countsBeforeTheFirstDraw() {
        PixelPipe pipe = new PixelPipe();
        allCounts("before the first draw", pipe, 0, 0, 0, 0, 0, 0);
        pipe.draw(4, 0, 3);
        pipe.draw(0, 0, 25);
        allCounts("before the first draw that is no error", pipe, 0, 0, 0, 0, 0, 0);
    }

    /** Nine points: three are killed, one stopped by the stencil, two by the depth, two pass, one covers nothing. */
    private static PixelPipe ninePoints() {
        PixelPipe pipe = new PixelPipe();
        for (int i = 0; i < 9; i++) {
            Scenes.point(pipe, i, i, 0, 50);
        }
        pipe.coords(0, -1, 0);
        pipe.coords(1, -1, 0);
        pipe.coords(2, -1, 0);
        pipe.vertex(8, -1, 0, 0, 1);
        pipe.step(9, 0, 4, 0);
        pipe.scissor(3, 0, 1, 1);
        pipe.clear(2, 1);
        pipe.scissor(4, 0, 2, 1);
        pipe.clear(1, 50);
        pipe.scissor(0, 0, 24, 16);
        pipe.set(2, 2);
        pipe.set(0, 1);
        checks.due("nine points", pipe.draw(0, 0, 9), 2);
        return pipe;
    }

    private static void countsOfEachKind() {
        allCounts("of nine points", ninePoints(), 8, 3, 1, 2, 2, 9);
    }

    private static void countsOfTheLatestDraw() {
        PixelPipe pipe = new PixelPipe();
        Scenes.eighths(pipe, 0, 0, 0);
        pipe.draw(1, 0, 3);
        allCounts("of a triangle", pipe, 36, 0, 0, 0, 36, 1);
        pipe.draw(0, 0, 2);
        allCounts("of two points", pipe, 2, 0, 0, 0, 2, 2);
    }

    private static void countsAfterADrawThatWasAnError() {
        PixelPipe pipe = ninePoints();
        pipe.draw(4, 0, 2);
        pipe.draw(-1, 0, 2);
        pipe.draw(0, 0, 25);
        pipe.draw(0, 25, 0);
        pipe.draw(0, -1, 1);
        allCounts("after draws that were errors", pipe, 8, 3, 1, 2, 2, 9);
    }

    private static void countsOfNoVertices() {
        for (int mode = 0; mode < 4; mode++) {
            for (int first : new int[] {0, 24}) {
                PixelPipe pipe = ninePoints();
                checks.due("draw(" + mode + ", " + first + ", 0)", pipe.draw(mode, first, 0), 0);
                allCounts("of no vertices", pipe, 0, 0, 0, 0, 0, 0);
            }
        }
    }

    /** Of six triangles one is nothing, one is culled, one lies outside, and one has no middle in it. */
    private static void countOfWhatWasDrawn() {
        PixelPipe pipe = new PixelPipe();
        int[][] places = {
            {0, 0}, {64, 0}, {0, 64}, {0, 0}, {32, 32}, {64, 64}, {0, 0}, {0, 64}, {64, 0},
            {-100, -100}, {-50, -100}, {-100, -50}, {5, 5}, {11, 5}, {5, 11}, {0, 0}, {64, 0}, {0, 64}};
        for (int i = 0; i < places.length; i++) {
            pipe.vertex(i, places[i][0], places[i][1], 0, 1);
        }
        pipe.set(9, 1);
        pipe.draw(1, 0, 18);
        allCounts("of six triangles", pipe, 56, 0, 0, 0, 56, 4);
        pipe.set(9, 2);
        pipe.draw(1, 0, 18);
        allCounts("of six triangles with CULL 2", pipe, 28, 0, 0, 0, 28, 1);
    }

    private static void coveredTwiceCountsTwice() {
        PixelPipe pipe = new PixelPipe();
        Scenes.eighths(pipe, 0, 0, 0);
        pipe.vertex(3, 4, 4, 0, 1);
        pipe.vertex(4, 68, 4, 0, 1);
        pipe.vertex(5, 4, 68, 0, 1);
        checks.due("the same triangle twice", pipe.draw(1, 0, 6), 72);
        allCounts("of the same triangle twice", pipe, 72, 0, 0, 0, 72, 2);
    }
}
