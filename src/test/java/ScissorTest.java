/** Promise 7: scissor. */
public final class ScissorTest {
    private static final int LEAST = Integer.MIN_VALUE;
    private static final int MOST = Integer.MAX_VALUE;
    private static final Checks checks = new Checks();

    public static void main(String[] args) {
        edges();
        boundsClear();
        boundsTriangles();
        boundsPoints();
        emptyScissor();
        refusedScissorChangesNothing();
        checks.end();
    }

    private static void edges() {
        int[][] good = {
            {0, 0, 24, 16}, {0, 0, 0, 0}, {24, 16, 0, 0}, {24, 0, 0, 16}, {0, 16, 24, 0}, {23, 15, 1, 1}};
        int[][] bad = {
            {-1, 0, 1, 1}, {0, -1, 1, 1}, {0, 0, -1, 1}, {0, 0, 1, -1}, {5, 5, -1, 1},
            {0, 0, 25, 1}, {0, 0, 1, 17}, {1, 0, 24, 1}, {0, 1, 1, 16}, {24, 0, 1, 1}, {0, 16, 1, 1},
            {25, 0, 0, 0}, {0, 17, 0, 0}, {25, 0, -1, 0}, {0, 17, 0, -1},
            {MOST, 0, 1, 1}, {MOST, 0, MOST, 1}, {1, 0, MOST, 1}, {LEAST, 0, MOST, 1}, {LEAST, 0, LEAST, 1},
            {0, MOST, 1, 1}, {0, MOST, 1, MOST}, {0, 1, 1, MOST}, {0, LEAST, 1, MOST}, {0, LEAST, 1, LEAST},
            {0, 0, LEAST, 1}, {0, 0, 1, LEAST}};
        PixelPipe pipe = new PixelPipe();
        for (int[] n : good) {
            checks.due("scissor " + java.util.Arrays.toString(n), pipe.scissor(n[0], n[1], n[2], n[3]), true);
            checks.due("error() after it", pipe.error(), 0);
        }
        for (int[] n : bad) {
            boolean got = pipe.scissor(n[0], n[1], n[2], n[3]);
            checks.refused("scissor " + java.util.Arrays.toString(n), pipe, got, PixelPipe.VALUE);
        }
    }

    private static boolean isInside(int x, int y) {
        return x >= 3 && x < 10 && y >= 2 && y < 6;
    }

    private static void boundsClear() {
        for (int y = 0; y < Scenes.HEIGHT; y++) {
            // A row at a time, since nothing is promised of an object after its 512th call.
            PixelPipe pipe = new PixelPipe();
            pipe.scissor(3, 2, 7, 4);
            pipe.clear(0, 9);
            pipe.clear(1, 8);
            pipe.clear(2, 7);
            for (int x = 0; x < Scenes.WIDTH; x++) {
                String where = " at " + x + ", " + y;
                checks.due("cleared colour" + where, pipe.pixel(x, y), isInside(x, y) ? 9 : 0);
                checks.due("cleared depth" + where, pipe.at(x, y, 0), isInside(x, y) ? 8 : 1023);
                checks.due("cleared stencil" + where, pipe.at(x, y, 1), isInside(x, y) ? 7 : 0);
            }
        }
    }

    private static void boundsTriangles() {
        PixelPipe pipe = new PixelPipe();
        Scenes.rectangle(pipe, 0, 0, 0, 24, 16);
        pipe.set(6, 3);
        pipe.scissor(3, 2, 7, 4);
        checks.due("a screen drawn in the scissor", pipe.draw(3, 0, 4), 28);
        checks.due("covered in the scissor", pipe.count(0), 28);
        checks.due("triangles drawn in the scissor", pipe.count(5), 2);
        for (int y = 0; y < Scenes.HEIGHT; y++) {
            for (int x = 0; x < Scenes.WIDTH; x++) {
                checks.due("stencil at " + x + ", " + y, pipe.at(x, y, 1), isInside(x, y) ? 1 : 0);
            }
        }
    }

    private static void boundsPoints() {
        PixelPipe pipe = new PixelPipe();
        pipe.scissor(3, 2, 7, 4);
        for (int y = 0; y < 8; y++) {
            for (int x = 0; x < 12; x++) {
                Scenes.point(pipe, 0, x, y, 0);
                checks.due("point at " + x + ", " + y, pipe.draw(0, 0, 1), isInside(x, y) ? 1 : 0);
            }
        }
    }

    private static void emptyScissor() {
        PixelPipe pipe = new PixelPipe();
        Scenes.rectangle(pipe, 0, 0, 0, 24, 16);
        pipe.scissor(5, 5, 0, 3);
        pipe.clear(0, 1);
        checks.due("triangles with a scissor of no width", pipe.draw(3, 0, 4), 0);
        pipe.scissor(0, 0, 3, 0);
        pipe.clear(0, 1);
        checks.due("points with a scissor of no height", pipe.draw(0, 0, 4), 0);
        checks.due("points that were drawn all the same", pipe.count(5), 4);
        checks.due("pixel(5, 5)", pipe.pixel(5, 5), 0);
        checks.due("pixel(0, 0)", pipe.pixel(0, 0), 0);
    }

    private static void refusedScissorChangesNothing() {
        PixelPipe pipe = new PixelPipe();
        pipe.scissor(1, 1, 2, 2);
        pipe.scissor(0, 0, 24, 17);
        pipe.clear(0, 4);
        checks.due("pixel(0, 0)", pipe.pixel(0, 0), 0);
        checks.due("pixel(1, 1)", pipe.pixel(1, 1), 4);
        checks.due("pixel(2, 2)", pipe.pixel(2, 2), 4);
        checks.due("pixel(3, 3)", pipe.pixel(3, 3), 0);
    }
}
