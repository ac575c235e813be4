/** Promise 7: scissor. Its ranges one by one are in RangesTest. */
public final class ScissorTest {
    private static final int LEAST = Integer.MIN_VALUE;
    private static final int MOST = Integer.MAX_VALUE;
    private static final Checks checks = new Checks();

    public static void main(String[] args) {
        sumsThatWrap();
        beyondTheScreenWithoutPixels();
        boundsClear();
        boundsTriangles();
        boundsPoints();
        onePixel();
        wholeScreen();
        noWidth();
        noHeight();
        laterScissorIsTheOneThatCounts();
        refusedScissorKeepsTheOldOne();
        checks.end();
    }

    /** x + w or y + h would be on the screen if ints did not wrap, or if a number below 0 made up for another. */
    private static void sumsThatWrap() {
        int[][] bad = {
            {MOST, 0, MOST, 1}, {1, 0, MOST, 1}, {24, 0, MOST, 1}, {MOST, 0, 1, 1}, {LEAST, 0, MOST, 1},
            {LEAST, 0, LEAST, 1}, {LEAST + 1, 0, MOST, 1}, {MOST, 0, LEAST + 5, 1}, {-1, 0, 1, 1}, {5, 0, -1, 1},
            {0, MOST, 1, MOST}, {0, 1, 1, MOST}, {0, 16, 1, MOST}, {0, MOST, 1, 1}, {0, LEAST, 1, MOST},
            {0, LEAST, 1, LEAST}, {0, LEAST + 1, 1, MOST}, {0, MOST, 1, LEAST + 5}, {0, -1, 1, 1}, {0, 5, 1, -1}};
        PixelPipe pipe = new PixelPipe();
        for (int[] n : bad) {
            refused(pipe, n);
        }
    }

    private static void beyondTheScreenWithoutPixels() {
        PixelPipe pipe = new PixelPipe();
        int[][] good = {{24, 16, 0, 0}, {24, 0, 0, 16}, {0, 16, 24, 0}, {0, 0, 0, 0}, {23, 15, 1, 1}};
        for (int[] n : good) {
            checks.due("scissor " + java.util.Arrays.toString(n), pipe.scissor(n[0], n[1], n[2], n[3]), true);
            checks.due("error() after it", pipe.error(), 0);
        }
        int[][] bad = {{25, 0, 0, 0}, {0, 17, 0, 0}, {25, 0, -1, 0}, {0, 17, 0, -1}, {24, 16, 1, 0}, {24, 16, 0, 1}};
        for (int[] n : bad) {
            refused(pipe, n);
        }
    }

    private static void refused(PixelPipe pipe, int[] n) {
        boolean got = pipe.scissor(n[0], n[1], n[2], n[3]);
        checks.refused("scissor " + java.util.Arrays.toString(n), pipe, got, PixelPipe.VALUE);
    }

    private static boolean isInside(int x, int y) {
        return x >= 3 && x < 10 && y >= 2 && y < 6;
    }

    private static void boundsClear() {
        for (int y = 0; y < Scenes.HEIGHT; y++) {
            // A row at a time, since nothing is promised of an object after its 512th call.
            PixelPipe pipe = new PixelPipe();
            pipe.scissor(3, 2, 7, 4);
            pipe.clear(0, 9);
            pipe.clear(1, 8);
            pipe.clear(2, 7);
            for (int x = 0; x < Scenes.WIDTH; x++) {
                String where = " at " + x + ", " + y;
                checks.due("cleared colour" + where, pipe.pixel(x, y), isInside(x, y) ? 9 : 0);
                checks.due("cleared depth" + where, pipe.at(x, y, 0), isInside(x, y) ? 8 : 1023);
                checks.due("cleared stencil" + where, pipe.at(x, y, 1), isInside(x, y) ? 7 : 0);
            }
        }
    }

    private static void boundsTriangles() {
        PixelPipe pipe = new PixelPipe();
        Scenes.rectangle(pipe, 0, 0, 0, 24, 16);
        pipe.set(6, 3);
        pipe.scissor(3, 2, 7, 4);
        checks.due("a screen drawn in the scissor", pipe.draw(3, 0, 4), 28);
        checks.due("covered in the scissor", pipe.count(0), 28);
        checks.due("triangles drawn in the scissor", pipe.count(5), 2);
        for (int y = 0; y < Scenes.HEIGHT; y++) {
            for (int x = 0; x < Scenes.WIDTH; x++) {
                checks.due("stencil at " + x + ", " + y, pipe.at(x, y, 1), isInside(x, y) ? 1 : 0);
            }
        }
    }

    private static void boundsPoints() {
        PixelPipe pipe = new PixelPipe();
        pipe.scissor(3, 2, 7, 4);
        for (int y = 0; y < 8; y++) {
            for (int x = 0; x < 12; x++) {
                Scenes.point(pipe, 0, x, y, 0);
                checks.due("point at " + x + ", " + y, pipe.draw(0, 0, 1), isInside(x, y) ? 1 : 0);
                checks.due("covered at " + x + ", " + y, pipe.count(0), isInside(x, y) ? 1 : 0);
                checks.due("drawn at " + x + ", " + y, pipe.count(5), 1);
            }
        }
    }

    private static void onePixel() {
        int[][] places = {{0, 0}, {23, 0}, {0, 15}, {23, 15}, {7, 9}};
        for (int[] n : places) {
            PixelPipe pipe = new PixelPipe();
            Scenes.rectangle(pipe, 0, 0, 0, 24, 16);
            pipe.scissor(n[0], n[1], 1, 1);
            checks.due("the screen drawn in one pixel", pipe.draw(3, 0, 4), 1);
            checks.due("its depth", pipe.at(n[0], n[1], 0), 0);
            Scenes.point(pipe, 5, n[0], n[1], 0);
            checks.due("a point in the one pixel", pipe.draw(0, 5, 1), 1);
            pipe.clear(0, 3);
            int beside = n[0] == 0 ? 1 : n[0] - 1;
            checks.due("the one pixel", pipe.pixel(n[0], n[1]), 3);
            checks.due("the pixel beside it", pipe.pixel(beside, n[1]), 0);
            checks.due("the depth beside it", pipe.at(beside, n[1], 0), 1023);
        }
    }

    private static void wholeScreen() {
        PixelPipe pipe = new PixelPipe();
        Scenes.rectangle(pipe, 0, -1, -1, 26, 18);
        pipe.scissor(5, 5, 1, 1);
        pipe.scissor(0, 0, 24, 16);
        checks.due("more than the screen drawn in the whole of it", pipe.draw(3, 0, 4), 384);
    }

    private static void noWidth() {
        for (int x : new int[] {0, 5, 23, 24}) {
            noPixels(x, 3, 0, 5);
        }
    }

    private static void noHeight() {
        for (int y : new int[] {0, 5, 15, 16}) {
            noPixels(3, y, 5, 0);
        }
    }

    private static void noPixels(int x, int y, int w, int h) {
        PixelPipe pipe = new PixelPipe();
        Scenes.rectangle(pipe, 0, 0, 0, 24, 16);
        Scenes.point(pipe, 4, 3, 3, 0);
        String told = "scissor(" + x + ", " + y + ", " + w + ", " + h + "): ";
        checks.due(told, pipe.scissor(x, y, w, h), true);
        checks.due(told + "triangles", pipe.draw(3, 0, 4), 0);
        checks.due(told + "pixels of triangles", pipe.count(0), 0);
        checks.due(told + "triangles drawn all the same", pipe.count(5), 2);
        checks.due(told + "points", pipe.draw(0, 0, 5), 0);
        checks.due(told + "pixels of points", pipe.count(0), 0);
        checks.due(told + "points drawn all the same", pipe.count(5), 5);
        checks.due(told + "clear of colours", pipe.clear(0, 1), true);
        checks.due(told + "clear of depths", pipe.clear(1, 1), true);
        checks.due(told + "clear of stencils", pipe.clear(2, 1), true);
        checks.refused(told + "clear to no colour", pipe, pipe.clear(0, 16777216), PixelPipe.VALUE);
        for (int px : new int[] {0, 3, 5, 22, 23}) {
            for (int py : new int[] {0, 3, 5, 14, 15}) {
                checks.due(told + "colour at " + px + ", " + py, pipe.pixel(px, py), 0);
                checks.due(told + "depth at " + px + ", " + py, pipe.at(px, py, 0), 1023);
                checks.due(told + "stencil at " + px + ", " + py, pipe.at(px, py, 1), 0);
            }
        }
    }

    private static void laterScissorIsTheOneThatCounts() {
        PixelPipe pipe = new PixelPipe();
        pipe.scissor(0, 0, 2, 2);
        pipe.scissor(1, 1, 2, 2);
        pipe.clear(0, 4);
        checks.due("pixel of the earlier scissor", pipe.pixel(0, 0), 0);
        checks.due("pixel of both", pipe.pixel(1, 1), 4);
        checks.due("pixel of the later scissor", pipe.pixel(2, 2), 4);
    }

    private static void refusedScissorKeepsTheOldOne() {
        PixelPipe pipe = new PixelPipe();
        pipe.scissor(1, 1, 2, 2);
        pipe.scissor(0, 0, 24, 17);
        pipe.clear(0, 4);
        checks.due("pixel(0, 0)", pipe.pixel(0, 0), 0);
        checks.due("pixel(1, 1)", pipe.pixel(1, 1), 4);
        checks.due("pixel(2, 2)", pipe.pixel(2, 2), 4);
        checks.due("pixel(3, 3)", pipe.pixel(3, 3), 0);
    }
}
