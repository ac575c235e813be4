/** Promises 11 and 16: which pixels a triangle or a point covers. */
public final class CoverTest {
    private static final Checks checks = new Checks();
    private static int state = 12345;

    public static void main(String[] args) {
        edgesOnMiddles();
        slantingEdges();
        besideTheEdge();
        cornersOnMiddles();
        turnedTriangleCoversTheSame();
        nothing();
        almostNothing();
        smallest();
        largest();
        noMiddleInside();
        outsideOfTheScreen();
        pointPlaces();
        pointsFarOutside();
        meshesCoverOnce();
        checks.end();
    }

    /** Always the same row of numbers. */
    private static int next(int bound) {
        state = state * 1103515245 + 12345;
        return (state >>> 16) % bound;
    }

    private static void edgesOnMiddles() {
        PixelPipe pipe = new PixelPipe();
        // A square from middle to middle: its left and upper sides have their middles, the others have not.
        pipe.vertex(0, 12, 12, 0, 1);
        pipe.vertex(1, 44, 12, 0, 1);
        pipe.vertex(2, 44, 44, 0, 1);
        pipe.vertex(3, 12, 44, 0, 1);
        Scenes.countCover(pipe);
        checks.due("square from middle to middle", pipe.draw(3, 0, 4), 16);
        for (int y = 0; y < 8; y++) {
            for (int x = 0; x < 8; x++) {
                boolean inside = x >= 1 && x <= 4 && y >= 1 && y <= 4;
                checks.due("cover at " + x + ", " + y, pipe.at(x, y, 1), inside ? 1 : 0);
            }
        }
    }

    private static void slantingEdges() {
        // Each triangle has a slanting edge through the middles 1, 1 to 5, 5 or 5, 1 to 1, 5.
        checks.due("edge upwards and to the left", covered(12, 12, 44, 12, 44, 44, 2, 2), 1);
        checks.due("edge downwards and to the right", covered(12, 12, 44, 44, 12, 44, 2, 2), 0);
        checks.due("edge upwards and to the right", covered(44, 12, 44, 44, 12, 44, 3, 3), 1);
        checks.due("edge downwards and to the left", covered(12, 12, 44, 12, 12, 44, 3, 3), 0);
        checks.due("edge upwards", covered(12, 12, 44, 12, 12, 44, 1, 2), 1);
        checks.due("edge downwards", covered(44, 12, 44, 44, 12, 44, 5, 3), 0);
        checks.due("edge to the right", covered(12, 12, 44, 12, 12, 44, 2, 1), 1);
        checks.due("edge to the left", covered(44, 12, 44, 44, 12, 44, 3, 5), 0);
        checks.due("corner of two edges that have it", covered(12, 12, 44, 12, 12, 44, 1, 1), 1);
        checks.due("right corner", covered(12, 12, 44, 12, 12, 44, 5, 1), 0);
        checks.due("lower corner", covered(12, 12, 44, 12, 12, 44, 1, 5), 0);
    }

    /** An edge in each direction, with a middle just inside of it, on it, and just outside of it. */
    private static void besideTheEdge() {
        int[][] directions = {
            {0, -24, 1}, {2, -24, 1}, {22, -24, 1}, {24, -2, 1}, {24, 0, 1}, {24, 2, 0}, {24, 22, 0}, {2, 24, 0},
            {0, 24, 0}, {-2, 24, 0}, {-22, 24, 0}, {-24, 2, 0}, {-24, 0, 0}, {-24, -2, 1}, {-22, -24, 1}, {-2, -24, 1}};
        for (int[] n : directions) {
            String edge = "edge " + n[0] + ", " + n[1];
            // The least weight above 0 that a middle can have beside the edge.
            int least = n[0] == 0 || n[1] == 0 ? 24 : 2;
            checks.due("just inside of an " + edge, beside(n[0], n[1], least), 1);
            checks.due("on an " + edge, beside(n[0], n[1], 0), n[2]);
            checks.due("just outside of an " + edge, beside(n[0], n[1], -least), 0);
        }
        int[][] odd = {{25, -2}, {2, -25}, {-2, -25}, {-25, -2}, {-25, 2}, {-2, 25}, {2, 25}, {25, 2}};
        for (int[] n : odd) {
            checks.due("weight 1 beside the edge " + n[0] + ", " + n[1], beside(n[0], n[1], 1), 1);
            checks.due("weight -1 beside the edge " + n[0] + ", " + n[1], beside(n[0], n[1], -1), 0);
        }
    }

    /** Whether the middle of 10, 8 is covered where it has this weight, about halfway along the edge. */
    private static int beside(int dx, int dy, int weight) {
        for (int ox = -30; ox <= 30; ox++) {
            for (int oy = -30; oy <= 30; oy++) {
                int along = 4 * (dx * ox + dy * oy);
                int length = dx * dx + dy * dy;
                if (dx * oy - dy * ox == weight && along > length && along < 3 * length) {
                    int fromX = 84 - ox;
                    int fromY = 68 - oy;
                    return covered(fromX, fromY, fromX + dx, fromY + dy,
                            fromX + dx / 2 - 2 * dy, fromY + dy / 2 + 2 * dx, 10, 8);
                }
            }
        }
        return -2;
    }

    /** A middle on a corner is covered only if both edges have it: here for triangles in each of 16 directions. */
    private static void cornersOnMiddles() {
        int[][] about = {
            {40, 0}, {40, 20}, {40, 40}, {20, 40}, {0, 40}, {-20, 40}, {-40, 40}, {-40, 20},
            {-40, 0}, {-40, -20}, {-40, -40}, {-20, -40}, {0, -40}, {20, -40}, {40, -40}, {40, -20}};
        int times = 0;
        for (int n = 0; n < 16; n++) {
            int[] from = about[n];
            int[] to = about[(n + 1) % 16];
            int got = covered(84, 68, 84 + from[0], 68 + from[1], 84 + to[0], 68 + to[1], 10, 8);
            // The corner's edges go out to the first place and come back from the second.
            boolean out = from[1] < 0 || (from[1] == 0 && from[0] > 0);
            boolean back = to[1] > 0 || (to[1] == 0 && to[0] < 0);
            checks.due("corner of the triangle " + n, got, out && back ? 1 : 0);
            times += got;
        }
        checks.due("how many of the triangles about a middle have it", times, 1);
    }

    /** Covers of one pixel, the same for each order of the corners. */
    private static int covered(int ax, int ay, int bx, int by, int cx, int cy, int x, int y) {
        int[][] corners = {{ax, ay}, {bx, by}, {cx, cy}};
        int[][] orders = {{0, 1, 2}, {1, 2, 0}, {2, 0, 1}, {0, 2, 1}, {2, 1, 0}, {1, 0, 2}};
        int times = 0;
        for (int[] order : orders) {
            PixelPipe pipe = new PixelPipe();
            Scenes.countCover(pipe);
            for (int i = 0; i < 3; i++) {
                pipe.vertex(i, corners[order[i]][0], corners[order[i]][1], 0, 1);
            }
            pipe.draw(1, 0, 3);
            times += pipe.at(x, y, 1);
        }
        return times == 6 ? 1 : times == 0 ? 0 : -1;
    }

    private static void turnedTriangleCoversTheSame() {
        for (int n = 0; n < 100; n++) {
            PixelPipe pipe = new PixelPipe();
            int[] turned = {3, 5, 4};
            for (int i = 0; i < 3; i++) {
                int x = 4 * next(60) - 20;
                int y = 4 * next(44) - 20;
                pipe.vertex(i, x, y, 0, 1);
                pipe.vertex(turned[i], x, y, 0, 1);
            }
            Scenes.countCover(pipe);
            int passed = pipe.draw(1, 0, 3);
            // REF 1 must be the stencil, so only pixels of the first triangle pass.
            pipe.set(2, 2);
            pipe.set(3, 1);
            checks.due("triangle " + n + " turned", pipe.draw(1, 3, 3), passed);
            checks.due("pixels of " + n + " turned alone", pipe.count(2), 0);
        }
    }

    private static void nothing() {
        PixelPipe pipe = new PixelPipe();
        pipe.vertex(0, 4, 4, 0, 1);
        pipe.vertex(1, 36, 4, 0, 1);
        pipe.vertex(2, 68, 4, 0, 1);
        checks.due("corners in a row", pipe.draw(1, 0, 3), 0);
        checks.due("it was not drawn", pipe.count(5), 0);
        pipe.vertex(2, 4, 4, 0, 1);
        checks.due("two corners at one place", pipe.draw(1, 0, 3), 0);
        checks.due("it was not drawn", pipe.count(5), 0);
    }

    /** The greatest triangles that are nothing, and those that just are not. */
    private static void almostNothing() {
        for (int off = -1; off <= 1; off++) {
            PixelPipe pipe = new PixelPipe();
            pipe.vertex(0, -800, -800, 0, 1);
            pipe.vertex(1, 0, off, 0, 1);
            pipe.vertex(2, 800, 800, 0, 1);
            int passed = pipe.draw(1, 0, 3);
            checks.due("corners in a row but for " + off, pipe.count(5), off == 0 ? 0 : 1);
            checks.due("its pixels with " + off, passed > 0, off == -1);
            pipe.set(9, 1);
            pipe.draw(1, 0, 3);
            checks.due("corners in a row but for " + off + ", CULL 1", pipe.count(5), off == -1 ? 1 : 0);
            pipe.set(9, 2);
            pipe.draw(1, 0, 3);
            checks.due("corners in a row but for " + off + ", CULL 2", pipe.count(5), off == 1 ? 1 : 0);
        }
    }

    /** A triangle with CROSS 1 and sides of one eighth, its upper left corner on a middle. */
    private static void smallest() {
        PixelPipe pipe = new PixelPipe();
        pipe.vertex(0, 12, 20, 77, 1);
        pipe.vertex(1, 13, 20, 0, 1);
        pipe.vertex(2, 12, 21, 0, 1);
        checks.due("smallest triangle", pipe.draw(1, 0, 3), 1);
        checks.due("its depth", pipe.at(1, 2, 0), 77);
        pipe.vertex(1, 12, 21, 0, 1);
        pipe.vertex(2, 13, 20, 0, 1);
        checks.due("smallest triangle, turned", pipe.draw(1, 0, 3), 1);
        pipe.set(9, 1);
        checks.due("smallest triangle, turned, with CULL 1", pipe.draw(1, 0, 3), 0);
        pipe.set(9, 2);
        checks.due("smallest triangle, turned, with CULL 2", pipe.draw(1, 0, 3), 1);
        pipe.vertex(1, 13, 20, 0, 1);
        pipe.vertex(2, 12, 21, 0, 1);
        checks.due("smallest triangle with CULL 2", pipe.draw(1, 0, 3), 0);
        pipe.set(9, 1);
        checks.due("smallest triangle with CULL 1", pipe.draw(1, 0, 3), 1);
    }

    private static void largest() {
        PixelPipe pipe = new PixelPipe();
        pipe.vertex(0, -800, -800, 1023, 64);
        pipe.vertex(1, 800, -800, 1023, 64);
        pipe.vertex(2, -800, 800, 1023, 64);
        pipe.vertex(3, 800, 800, 1023, 64);
        for (int i = 0; i < 4; i++) {
            pipe.paint(i, 255, 254, 253, 252);
            pipe.coords(i, 1000, -1000);
        }
        Scenes.countCover(pipe);
        checks.due("a strip about the screen", pipe.draw(2, 0, 4), 384);
        checks.due("depth between great numbers", pipe.at(12, 8, 0), 1023);
        checks.due("colour between great numbers", pipe.pixel(12, 8), Scenes.colour(255, 254, 253));
        pipe.step(8, 6, 1000, 0);
        pipe.step(2, 0, 4, 6);
        pipe.step(9, 0, 0, 0);
        pipe.step(1, 1, 5, 6);
        pipe.step(9, 0, 1, 0);
        checks.due("s and t between great numbers", pipe.draw(2, 0, 4), 384);
        for (int y = 0; y < Scenes.HEIGHT; y++) {
            for (int x = 0; x < Scenes.WIDTH; x++) {
                checks.due("cover at " + x + ", " + y, pipe.at(x, y, 1), 2);
            }
        }
    }

    private static void noMiddleInside() {
        PixelPipe pipe = new PixelPipe();
        pipe.vertex(0, 5, 5, 0, 1);
        pipe.vertex(1, 11, 5, 0, 1);
        pipe.vertex(2, 11, 11, 0, 1);
        pipe.vertex(3, 5, 11, 0, 1);
        checks.due("a square between the middles", pipe.draw(3, 0, 4), 0);
        checks.due("its pixels", pipe.count(0), 0);
        checks.due("its triangles", pipe.count(5), 2);
        pipe.vertex(0, 4, 4, 0, 1);
        pipe.vertex(1, 11, 4, 0, 1);
        pipe.vertex(3, 4, 11, 0, 1);
        checks.due("with the upper left middle", pipe.draw(3, 0, 4), 1);
        pipe.vertex(0, 5, 5, 0, 1);
        pipe.vertex(1, 12, 5, 0, 1);
        pipe.vertex(2, 12, 12, 0, 1);
        pipe.vertex(3, 5, 12, 0, 1);
        checks.due("up to the lower right middle", pipe.draw(3, 0, 4), 0);
    }

    /** Squares that end at the outermost middles, or one eighth beyond them. */
    private static void outsideOfTheScreen() {
        checks.due("left of the screen", square(-800, 0, 4, 128), 0);
        checks.due("left, with the first middles", square(-800, 0, 5, 128), 16);
        checks.due("right of the screen", square(189, 0, 800, 128), 0);
        checks.due("right, with the last middles", square(188, 0, 800, 128), 16);
        checks.due("above the screen", square(0, -800, 192, 4), 0);
        checks.due("above, with the first middles", square(0, -800, 192, 5), 24);
        checks.due("below the screen", square(0, 125, 192, 800), 0);
        checks.due("below, with the last middles", square(0, 124, 192, 800), 24);
        checks.due("far outside", square(-800, -800, -100, -100), 0);
        checks.due("from end to end", square(-800, -800, 800, 800), 384);
    }

    private static int square(int left, int top, int right, int bottom) {
        PixelPipe pipe = new PixelPipe();
        pipe.vertex(0, left, top, 0, 1);
        pipe.vertex(1, right, top, 0, 1);
        pipe.vertex(2, right, bottom, 0, 1);
        pipe.vertex(3, left, bottom, 0, 1);
        int passed = pipe.draw(3, 0, 4);
        checks.due("triangles of a square", pipe.count(5), 2);
        checks.due("covered by a square", pipe.count(0), passed);
        return passed;
    }

    private static void pointPlaces() {
        PixelPipe pipe = new PixelPipe();
        for (int x : new int[] {-9, -8, -1, 0, 7, 8, 15, 16, 183, 184, 191, 192, 199, 200}) {
            pointPlace(pipe, x, 0);
            pointPlace(pipe, x, 20);
            pointPlace(pipe, x, 127);
        }
        for (int y : new int[] {-9, -8, -1, 0, 7, 8, 15, 16, 119, 120, 127, 128, 135, 136}) {
            pointPlace(pipe, 0, y);
            pointPlace(pipe, 20, y);
            pointPlace(pipe, 191, y);
        }
    }

    private static void pointsFarOutside() {
        PixelPipe pipe = new PixelPipe();
        for (int x : new int[] {-800, 4, 800}) {
            for (int y : new int[] {-800, 4, 800}) {
                pointPlace(pipe, x, y);
            }
        }
    }

    private static void pointPlace(PixelPipe pipe, int x, int y) {
        pipe.clear(1, 1023);
        pipe.vertex(0, x, y, 3, 1);
        boolean onScreen = x >= 0 && x < 192 && y >= 0 && y < 128;
        String where = " at " + x + ", " + y + " eighths";
        checks.due("point" + where, pipe.draw(0, 0, 1), onScreen ? 1 : 0);
        checks.due("covered by the point" + where, pipe.count(0), onScreen ? 1 : 0);
        checks.due("drawn, wherever it is," + where, pipe.count(5), 1);
        if (onScreen) {
            checks.due("pixel of the point" + where, pipe.at(x / 8, y / 8, 0), 3);
        }
    }

    /** A fan from a middle about a rectangle that holds the screen: no gap, nothing twice. */
    private static void meshesCoverOnce() {
        for (int n = 0; n < 200; n++) {
            PixelPipe pipe = new PixelPipe();
            boolean turned = n % 2 == 1;
            int last = rim(pipe, turned);
            pipe.vertex(0, 4 * next(48), 4 * next(32), 0, 1);
            Scenes.countCover(pipe);
            checks.due("fan " + n, pipe.draw(3, 0, last + 1), 384);
            for (int y = 0; y < Scenes.HEIGHT; y++) {
                for (int x = 0; x < Scenes.WIDTH; x++) {
                    checks.due("fan " + n + ", cover at " + x + ", " + y, pipe.at(x, y, 1), 1);
                }
            }
        }
    }

    /** Vertices 1 and following along a rectangle and back to the first one; answers the last. */
    private static int rim(PixelPipe pipe, boolean turned) {
        for (int i = 0; i <= 20; i++) {
            int stop = (turned ? 40 - i : i) % 20;
            // Stops 0..5 lie on the upper side, 6..9 right, 10..15 below, 16..19 left.
            int x = stop <= 5 ? 40 * stop - 4 : stop < 10 ? 196 : stop <= 15 ? 196 - 40 * (stop - 10) : -4;
            int y = stop <= 5 ? -4 : stop < 10 ? 28 * (stop - 5) - 4 : stop <= 15 ? 136 : 136 - 28 * (stop - 15);
            pipe.vertex(1 + i, x, y, 0, 1);
        }
        return 21;
    }
}
