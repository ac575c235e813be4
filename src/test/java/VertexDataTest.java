/** Promises 2 to 5: vertex, paint, coords and texel. */
public final class VertexDataTest {
    private static final int LEAST = Integer.MIN_VALUE;
    private static final int MOST = Integer.MAX_VALUE;
    private static final Checks checks = new Checks();

    public static void main(String[] args) {
        vertexEdges();
        vertexIsKept();
        refusedVertexChangesNothing();
        paintEdges();
        paintIsKept();
        coordsEdges();
        coordsAreKept();
        texelEdges();
        texelsAreKept();
        checks.end();
    }

    private static void vertexEdges() {
        int[][] good = {
            {0, 0, 0, 0, 1}, {23, 0, 0, 0, 1}, {5, -800, -800, 0, 1}, {5, 800, 800, 0, 1},
            {5, 0, 0, 1023, 1}, {5, 0, 0, 0, 64}};
        int[][] bad = {
            {-1, 0, 0, 0, 1}, {24, 0, 0, 0, 1}, {LEAST, 0, 0, 0, 1}, {MOST, 0, 0, 0, 1},
            {5, -801, 0, 0, 1}, {5, 801, 0, 0, 1}, {5, LEAST, 0, 0, 1}, {5, MOST, 0, 0, 1},
            {5, 0, -801, 0, 1}, {5, 0, 801, 0, 1}, {5, 0, LEAST, 0, 1}, {5, 0, MOST, 0, 1},
            {5, 0, 0, -1, 1}, {5, 0, 0, 1024, 1}, {5, 0, 0, LEAST, 1}, {5, 0, 0, MOST, 1},
            {5, 0, 0, 0, 0}, {5, 0, 0, 0, 65}, {5, 0, 0, 0, LEAST}, {5, 0, 0, 0, MOST}};
        PixelPipe pipe = new PixelPipe();
        for (int[] n : good) {
            checks.due("vertex " + java.util.Arrays.toString(n), pipe.vertex(n[0], n[1], n[2], n[3], n[4]), true);
            checks.due("error() after it", pipe.error(), 0);
        }
        for (int[] n : bad) {
            boolean got = pipe.vertex(n[0], n[1], n[2], n[3], n[4]);
            checks.refused("vertex " + java.util.Arrays.toString(n), pipe, got, PixelPipe.VALUE);
        }
    }

    private static void vertexIsKept() {
        PixelPipe pipe = new PixelPipe();
        for (int i = 0; i < 24; i++) {
            Scenes.point(pipe, i, i, i % 16, 40 * i);
        }
        checks.due("24 points", pipe.draw(0, 0, 24), 24);
        for (int i = 0; i < 24; i++) {
            checks.due("depth at the place of vertex " + i, pipe.at(i, i % 16, 0), 40 * i);
        }
    }

    private static void refusedVertexChangesNothing() {
        PixelPipe pipe = new PixelPipe();
        pipe.vertex(0, 20, 20, 7, 1);
        pipe.vertex(0, 100, 100, 8, 65);
        pipe.vertex(0, 100, 100, 1024, 1);
        pipe.draw(0, 0, 1);
        checks.due("depth at the old place", pipe.at(2, 2, 0), 7);
        checks.due("depth at the refused place", pipe.at(12, 12, 0), 1023);
    }

    private static void paintEdges() {
        PixelPipe pipe = new PixelPipe();
        checks.due("paint(0, 0, 0, 0, 0)", pipe.paint(0, 0, 0, 0, 0), true);
        checks.due("paint(23, 255, 255, 255, 255)", pipe.paint(23, 255, 255, 255, 255), true);
        int[] bad = {-1, 256, LEAST, MOST};
        for (int v : bad) {
            checks.refused("paint r " + v, pipe, pipe.paint(0, v, 0, 0, 0), PixelPipe.VALUE);
            checks.refused("paint g " + v, pipe, pipe.paint(0, 0, v, 0, 0), PixelPipe.VALUE);
            checks.refused("paint b " + v, pipe, pipe.paint(0, 0, 0, v, 0), PixelPipe.VALUE);
            checks.refused("paint alpha " + v, pipe, pipe.paint(0, 0, 0, 0, v), PixelPipe.VALUE);
        }
        int[] noVertices = {-1, 24, LEAST, MOST};
        for (int i : noVertices) {
            checks.refused("paint of vertex " + i, pipe, pipe.paint(i, 0, 0, 0, 0), PixelPipe.VALUE);
        }
    }

    private static void paintIsKept() {
        PixelPipe pipe = new PixelPipe();
        for (int i = 0; i < 24; i++) {
            pipe.paint(i, i + 1, i + 2, i + 3, i + 4);
        }
        pipe.paint(3, 99, 99, 99, 256);
        for (int i = 0; i < 24; i++) {
            pipe.draw(0, i, 1);
            checks.due("colour of vertex " + i, pipe.pixel(0, 0), Scenes.colour(i + 1, i + 2, i + 3));
        }
        PixelPipe alpha = new PixelPipe();
        alpha.paint(0, 1, 2, 3, 4);
        checks.due("register 3 is alpha", Scenes.registerIs(alpha, 0, 3, 4), true);
    }

    private static void coordsEdges() {
        PixelPipe pipe = new PixelPipe();
        checks.due("coords(0, -1000, -1000)", pipe.coords(0, -1000, -1000), true);
        checks.due("coords(23, 1000, 1000)", pipe.coords(23, 1000, 1000), true);
        int[] bad = {-1001, 1001, LEAST, MOST};
        for (int v : bad) {
            checks.refused("coords s " + v, pipe, pipe.coords(0, v, 0), PixelPipe.VALUE);
            checks.refused("coords t " + v, pipe, pipe.coords(0, 0, v), PixelPipe.VALUE);
        }
        int[] noVertices = {-1, 24, LEAST, MOST};
        for (int i : noVertices) {
            checks.refused("coords of vertex " + i, pipe, pipe.coords(i, 0, 0), PixelPipe.VALUE);
        }
    }

    private static void coordsAreKept() {
        PixelPipe pipe = new PixelPipe();
        pipe.paint(0, 9, 8, 7, 6);
        pipe.coords(0, -1000, 999);
        pipe.coords(0, 5, 1001);
        pipe.coords(0, 1001, 5);
        checks.due("register 4 is s", Scenes.registerIs(pipe, 0, 4, -1000), true);
        checks.due("register 5 is t", Scenes.registerIs(pipe, 0, 5, 999), true);
        checks.due("coords leave r", Scenes.registerIs(pipe, 0, 0, 9), true);
        checks.due("coords leave alpha", Scenes.registerIs(pipe, 0, 3, 6), true);
    }

    private static void texelEdges() {
        PixelPipe pipe = new PixelPipe();
        checks.due("texel(0, 0, 0)", pipe.texel(0, 0, 0), true);
        checks.due("texel(7, 7, 16777215)", pipe.texel(7, 7, 16777215), true);
        int[] badPlaces = {-1, 8, LEAST, MOST};
        for (int v : badPlaces) {
            checks.refused("texel s " + v, pipe, pipe.texel(v, 0, 0), PixelPipe.VALUE);
            checks.refused("texel t " + v, pipe, pipe.texel(0, v, 0), PixelPipe.VALUE);
        }
        int[] badColours = {-1, 16777216, LEAST, MOST};
        for (int v : badColours) {
            checks.refused("texel colour " + v, pipe, pipe.texel(0, 0, v), PixelPipe.VALUE);
        }
    }

    private static void texelsAreKept() {
        PixelPipe pipe = new PixelPipe();
        for (int s = 0; s < 8; s++) {
            for (int t = 0; t < 8; t++) {
                pipe.texel(s, t, Scenes.colour(s + 1, t + 1, 8 * s + t));
            }
        }
        pipe.texel(2, 3, 16777216);
        pipe.step(7, 0, 4, 5);
        for (int s = 0; s < 8; s++) {
            for (int t = 0; t < 8; t++) {
                pipe.coords(0, 8 * s + 3, 8 * t + 7);
                pipe.draw(0, 0, 1);
                int want = Scenes.colour(s + 1, t + 1, 8 * s + t);
                checks.due("texel " + s + ", " + t, pipe.pixel(0, 0), want);
            }
        }
    }
}
