/** Promise 11: draw, its modes, its errors and CULL. */
public final class DrawTest {
    private static final Checks checks = new Checks();

    public static void main(String[] args) {
        sumsThatWrap();
        edgesOfRanges();
        noVertices();
        leftOverVertices();
        allVertices();
        lastVertices();
        triangles();
        strip();
        fan();
        points();
        cullTriangles();
        cullStrip();
        cullIsNotForPoints();
        laterOnesDrawOverEarlierOnes();
        checks.end();
    }

    /** first + count would be in the range if ints did not wrap, or if a number below 0 made up for another. */
    private static void sumsThatWrap() {
        int least = Integer.MIN_VALUE;
        int most = Integer.MAX_VALUE;
        int[][] bad = {
            {-1, 1}, {-1, 25}, {25, -1}, {24, 1}, {23, 2}, {1, 24}, {12, 13}, {most, most}, {most, 1}, {1, most},
            {24, most}, {least, least}, {least, most}, {least + 1, most}, {most, least + 5}, {24, least}, {least, 24}};
        PixelPipe pipe = new PixelPipe();
        for (int mode = 0; mode < 4; mode++) {
            for (int[] n : bad) {
                String call = "draw(" + mode + ", " + n[0] + ", " + n[1] + ")";
                checks.refused(call, pipe, pipe.draw(mode, n[0], n[1]), PixelPipe.VALUE);
            }
        }
    }

    private static void edgesOfRanges() {
        PixelPipe pipe = new PixelPipe();
        for (int mode = 0; mode < 4; mode++) {
            for (int count = 0; count <= 24; count++) {
                int want = mode == 0 ? count : 0;
                checks.due("draw(" + mode + ", last, " + count + ")", pipe.draw(mode, 24 - count, count), want);
            }
        }
        checks.due("error()", pipe.error(), 0);
    }

    /** Also with no vertices first must be from 0 to 24. */
    private static void noVertices() {
        PixelPipe pipe = new PixelPipe();
        for (int mode = 0; mode < 4; mode++) {
            checks.due("draw(" + mode + ", 0, 0)", pipe.draw(mode, 0, 0), 0);
            checks.due("draw(" + mode + ", 24, 0)", pipe.draw(mode, 24, 0), 0);
            checks.due("error() after both", pipe.error(), 0);
            for (int first : new int[] {-1, 25, Integer.MIN_VALUE, Integer.MAX_VALUE}) {
                String call = "draw(" + mode + ", " + first + ", 0)";
                checks.refused(call, pipe, pipe.draw(mode, first, 0), PixelPipe.VALUE);
            }
        }
    }

    private static void leftOverVertices() {
        for (int mode = 1; mode < 4; mode++) {
            for (int count = 0; count <= 9; count++) {
                PixelPipe pipe = new PixelPipe();
                // Each of the vertices on a bow: no three of them lie in a row.
                for (int i = 0; i < 9; i++) {
                    pipe.vertex(i + 2, 8 * i, i * i, 0, 1);
                }
                pipe.draw(mode, 2, count);
                int want = mode == 1 ? count / 3 : Math.max(0, count - 2);
                checks.due("triangles of draw(" + mode + ", 2, " + count + ")", pipe.count(5), want);
            }
        }
    }

    /** All 24 vertices on a bow, so that no three of them lie in a row. */
    private static void allVertices() {
        int[] want = {24, 8, 22, 22};
        for (int mode = 0; mode < 4; mode++) {
            PixelPipe pipe = new PixelPipe();
            for (int i = 0; i < 24; i++) {
                pipe.vertex(i, 8 * i, i * i, 0, 1);
            }
            pipe.draw(mode, 0, 24);
            checks.due("how many draw(" + mode + ", 0, 24) has", pipe.count(5), want[mode]);
        }
    }

    /** The last vertices that there are: the last one gives its colour. */
    private static void lastVertices() {
        for (int mode = 1; mode < 4; mode++) {
            PixelPipe pipe = new PixelPipe();
            pipe.vertex(21, 0, 0, 0, 1);
            pipe.vertex(22, 64, 0, 0, 1);
            pipe.vertex(23, 0, 64, 0, 1);
            pipe.paint(23, 8, 7, 6, 5);
            pipe.set(11, 1);
            checks.due("draw(" + mode + ", 21, 3)", pipe.draw(mode, 21, 3), 28);
            checks.due("its colour", pipe.pixel(0, 0), Scenes.colour(8, 7, 6));
            checks.due("draw(" + mode + ", 22, 2)", pipe.draw(mode, 22, 2), 0);
            checks.refused("draw(" + mode + ", 22, 3)", pipe, pipe.draw(mode, 22, 3), PixelPipe.VALUE);
        }
    }

    private static void flatPaint(PixelPipe pipe, int vertices) {
        pipe.set(11, 1);
        for (int i = 0; i < vertices; i++) {
            pipe.paint(i, 10 * i, 1, 1, 1);
        }
    }

    /** The vertex that gave the pixel its colour. */
    private static int painter(PixelPipe pipe, int x, int y) {
        return (pipe.pixel(x, y) >> 16) / 10;
    }

    private static void triangles() {
        PixelPipe pipe = new PixelPipe();
        for (int k = 0; k < 3; k++) {
            pipe.vertex(3 * k + 1, 64 * k, 0, 0, 1);
            pipe.vertex(3 * k + 2, 64 * k + 64, 0, 0, 1);
            pipe.vertex(3 * k + 3, 64 * k, 64, 0, 1);
        }
        flatPaint(pipe, 10);
        checks.due("three triangles", pipe.draw(1, 1, 9), 3 * 28);
        checks.due("painter of the first", painter(pipe, 0, 0), 3);
        checks.due("painter of the second", painter(pipe, 8, 0), 6);
        checks.due("painter of the third", painter(pipe, 16, 0), 9);
        checks.due("eight vertices, two triangles", pipe.draw(1, 1, 8), 2 * 28);
    }

    private static void strip() {
        PixelPipe pipe = new PixelPipe();
        for (int i = 0; i < 6; i++) {
            pipe.vertex(i + 1, 64 * (i / 2), 64 * (i % 2), 0, 1);
        }
        flatPaint(pipe, 7);
        Scenes.countCover(pipe);
        checks.due("strip of six", pipe.draw(2, 1, 6), 128);
        checks.due("triangles of the strip", pipe.count(5), 4);
        checks.due("painter of the first", painter(pipe, 0, 0), 3);
        checks.due("painter of the second", painter(pipe, 7, 7), 4);
        checks.due("painter of the third", painter(pipe, 8, 0), 5);
        checks.due("painter of the fourth", painter(pipe, 15, 7), 6);
        for (int x = 0; x < 16; x++) {
            checks.due("cover on the diagonal of the strip", pipe.at(x, 7 - x % 8, 1), 1);
        }
    }

    private static void fan() {
        PixelPipe pipe = new PixelPipe();
        pipe.vertex(1, 64, 64, 0, 1);
        pipe.vertex(2, 0, 64, 0, 1);
        pipe.vertex(3, 0, 0, 0, 1);
        pipe.vertex(4, 128, 0, 0, 1);
        pipe.vertex(5, 128, 64, 0, 1);
        flatPaint(pipe, 6);
        Scenes.countCover(pipe);
        checks.due("fan of five", pipe.draw(3, 1, 5), 128);
        checks.due("triangles of the fan", pipe.count(5), 3);
        checks.due("painter of the first", painter(pipe, 0, 6), 3);
        checks.due("painter of the second", painter(pipe, 8, 0), 4);
        checks.due("painter of the third", painter(pipe, 15, 7), 5);
        for (int y = 0; y < 8; y++) {
            for (int x = 0; x < 16; x++) {
                checks.due("cover of the fan at " + x + ", " + y, pipe.at(x, y, 1), 1);
            }
        }
    }

    private static void points() {
        PixelPipe pipe = new PixelPipe();
        for (int i = 0; i < 24; i++) {
            Scenes.point(pipe, i, i, 3, i);
        }
        checks.due("points 5 to 9", pipe.draw(0, 5, 5), 5);
        for (int i = 0; i < 24; i++) {
            checks.due("depth of point " + i, pipe.at(i, 3, 0), i >= 5 && i < 10 ? i : 1023);
        }
    }

    private static void cullTriangles() {
        int[][] want = {{36, 36}, {36, 0}, {0, 36}};
        for (int cull = 0; cull < 3; cull++) {
            PixelPipe pipe = new PixelPipe();
            pipe.set(9, cull);
            Scenes.eighths(pipe, 0, 0, 0);
            checks.due("FRONT with CULL " + cull, pipe.draw(1, 0, 3), want[cull][0]);
            checks.due("count(5)", pipe.count(5), want[cull][0] / 36);
            pipe.vertex(3, 4, 4, 0, 1);
            pipe.vertex(4, 4, 68, 0, 1);
            pipe.vertex(5, 68, 4, 0, 1);
            checks.due("not FRONT with CULL " + cull, pipe.draw(1, 3, 3), want[cull][1]);
            checks.due("count(5)", pipe.count(5), want[cull][1] / 36);
            checks.due("count(0)", pipe.count(0), want[cull][1]);
        }
    }

    private static void cullStrip() {
        PixelPipe pipe = new PixelPipe();
        for (int i = 0; i < 6; i++) {
            pipe.vertex(i, 64 * (i / 2), 64 * (i % 2), 0, 1);
        }
        // Its first triangle 0, 1, 2 is not FRONT, and by the exchange none of the others is.
        pipe.set(9, 1);
        checks.due("strip with CULL 1", pipe.draw(2, 0, 6), 0);
        checks.due("strip with CULL 1, count(5)", pipe.count(5), 0);
        pipe.set(9, 2);
        checks.due("strip with CULL 2", pipe.draw(2, 0, 6), 128);
        // From vertex 1 on it is the other way round: k - first counts, not k.
        checks.due("strip from 1 on with CULL 2", pipe.draw(2, 1, 5), 0);
        pipe.set(9, 1);
        // The first square is halved by an edge that goes upwards, so its lower half has the 8 middles on it.
        checks.due("strip from 1 on with CULL 1", pipe.draw(2, 1, 5), 36 + 64);
    }

    private static void cullIsNotForPoints() {
        for (int cull = 0; cull < 3; cull++) {
            PixelPipe pipe = new PixelPipe();
            pipe.set(9, cull);
            checks.due("points with CULL " + cull, pipe.draw(0, 0, 2), 2);
            checks.due("count(5)", pipe.count(5), 2);
        }
    }

    private static void laterOnesDrawOverEarlierOnes() {
        PixelPipe pipe = new PixelPipe();
        pipe.paint(0, 1, 1, 1, 1);
        pipe.paint(1, 2, 2, 2, 2);
        pipe.draw(0, 0, 2);
        checks.due("two points at one place", pipe.pixel(0, 0), Scenes.colour(2, 2, 2));
        checks.due("both count", pipe.count(4), 2);
        pipe.vertex(0, 0, 0, 5, 1);
        pipe.vertex(1, 0, 0, 5, 1);
        pipe.clear(1, 9);
        pipe.set(0, 1);
        checks.due("the first one stops the second", pipe.draw(0, 0, 2), 1);
        checks.due("its colour", pipe.pixel(0, 0), Scenes.colour(1, 1, 1));
    }
}
