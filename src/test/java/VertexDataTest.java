/** Promises 2 to 5: what vertex, paint, coords and texel set, also at the ends of their ranges. */
public final class VertexDataTest {
    private static final Checks checks = new Checks();

    public static void main(String[] args) {
        vertexIsKept();
        vertexIsSetAnew();
        placesAtTheEnds();
        depthAtTheEnds();
        nearnessAtTheEnds();
        paintIsKept();
        paintAtTheEnds();
        coordsAreKept();
        coordsAtTheEnds();
        texelsAreKept();
        texelColoursAtTheEnds();
        checks.end();
    }

    private static void vertexIsKept() {
        PixelPipe pipe = new PixelPipe();
        for (int i = 0; i < 24; i++) {
            Scenes.point(pipe, i, i, i % 16, 40 * i);
        }
        checks.due("24 points", pipe.draw(0, 0, 24), 24);
        for (int i = 0; i < 24; i++) {
            checks.due("depth at the place of vertex " + i, pipe.at(i, i % 16, 0), 40 * i);
        }
    }

    private static void vertexIsSetAnew() {
        PixelPipe pipe = new PixelPipe();
        pipe.vertex(0, 20, 20, 7, 1);
        pipe.vertex(0, 100, 101, 8, 1);
        pipe.draw(0, 0, 1);
        checks.due("depth at the old place", pipe.at(2, 2, 0), 1023);
        checks.due("depth at the new place", pipe.at(12, 12, 0), 8);
    }

    /** Both diagonals of the greatest square: their middles show that no place was cut or wrapped. */
    private static void placesAtTheEnds() {
        int[][] corners = {{-800, -800}, {800, -800}, {800, 800}, {-800, 800}};
        for (int left = 0; left < 4; left++) {
            PixelPipe pipe = new PixelPipe();
            for (int i = 0, n = 0; n < 4; n++) {
                if (n != left) {
                    pipe.vertex(i++, corners[n][0], corners[n][1], 0, 1);
                }
            }
            checks.due("half of the greatest square without corner " + left, pipe.draw(1, 0, 3), half(left));
        }
    }

    /**
     * Without corner 0 or 2 the whole screen lies on one side of the slanting edge. Without 1 that edge goes
     * downwards, so it has not the middles with x = y; without 3 it goes upwards and has them.
     */
    private static int half(int left) {
        int above = 0;
        for (int y = 0; y < Scenes.HEIGHT; y++) {
            above += Scenes.WIDTH - 1 - y;
        }
        int all = Scenes.WIDTH * Scenes.HEIGHT;
        int[] want = {all, all - above - Scenes.HEIGHT, 0, above + Scenes.HEIGHT};
        return want[left];
    }

    private static void depthAtTheEnds() {
        PixelPipe pipe = new PixelPipe();
        pipe.clear(1, 500);
        for (int z : new int[] {0, 1, 1022, 1023}) {
            pipe.vertex(0, 0, 0, z, 1);
            pipe.draw(0, 0, 1);
            checks.due("depth of a point with z " + z, pipe.at(0, 0, 0), z);
            Scenes.eighths(pipe, z, z, z);
            pipe.draw(1, 0, 3);
            checks.due("depth of a triangle with z " + z, pipe.at(2, 3, 0), z);
        }
    }

    /** At 4, 4 the weights are as 7, 0 and 1. */
    private static void nearnessAtTheEnds() {
        PixelPipe pipe = new PixelPipe();
        pipe.paint(0, 200, 0, 0, 0);
        pipe.paint(2, 0, 200, 0, 0);
        pipe.vertex(1, 68, 4, 0, 1);
        int[][] want = {{1, 1, 175, 25}, {64, 1, 199, 0}, {1, 64, 19, 180}, {64, 64, 175, 25}, {63, 64, 174, 25}};
        for (int[] n : want) {
            pipe.vertex(0, 4, 4, 0, n[0]);
            pipe.vertex(2, 4, 68, 0, n[1]);
            pipe.draw(1, 0, 3);
            checks.due("nearness " + n[0] + " and " + n[1], pipe.pixel(0, 1), Scenes.colour(n[2], n[3], 0));
        }
    }

    private static void paintIsKept() {
        PixelPipe pipe = new PixelPipe();
        for (int i = 0; i < 24; i++) {
            pipe.paint(i, i + 1, i + 2, i + 3, i + 4);
        }
        for (int i = 0; i < 24; i++) {
            pipe.draw(0, i, 1);
            checks.due("colour of vertex " + i, pipe.pixel(0, 0), Scenes.colour(i + 1, i + 2, i + 3));
        }
    }

    private static void paintAtTheEnds() {
        int[][] some = {{0, 255, 0, 255}, {255, 0, 255, 0}, {1, 254, 1, 254}, {254, 1, 254, 1}};
        for (int[] n : some) {
            PixelPipe pipe = new PixelPipe();
            pipe.paint(0, n[0], n[1], n[2], n[3]);
            for (int register = 0; register < 4; register++) {
                checks.due("register " + register + " by paint",
                        Scenes.registerIs(pipe, 0, register, n[register]), true);
            }
        }
    }

    private static void coordsAreKept() {
        for (int i = 0; i < 24; i++) {
            PixelPipe pipe = new PixelPipe();
            for (int n = 0; n < 24; n++) {
                pipe.paint(n, 9, 8, 7, 6);
                pipe.coords(n, 10 * n - 100, 100 - 9 * n);
            }
            // The helper draws vertex 0, so what it has there must be left by the calls for all others.
            pipe.coords(0, 500 + i, -500 - i);
            pipe.coords(23 - i % 23, 1, 2);
            checks.due("register 4 is s", Scenes.registerIs(pipe, 0, 4, 500 + i), true);
            checks.due("register 5 is t", Scenes.registerIs(pipe, 0, 5, -500 - i), true);
            checks.due("coords leave r", Scenes.registerIs(pipe, 0, 0, 9), true);
            checks.due("coords leave alpha", Scenes.registerIs(pipe, 0, 3, 6), true);
        }
    }

    private static void coordsAtTheEnds() {
        for (int v : new int[] {-1000, -999, -1, 0, 1, 999, 1000}) {
            PixelPipe pipe = new PixelPipe();
            pipe.coords(0, v, -v);
            checks.due("s at " + v, Scenes.registerIs(pipe, 0, 4, v), true);
            checks.due("t at " + -v, Scenes.registerIs(pipe, 0, 5, -v), true);
        }
    }

    private static void texelsAreKept() {
        PixelPipe pipe = new PixelPipe();
        for (int s = 0; s < 8; s++) {
            for (int t = 0; t < 8; t++) {
                pipe.texel(s, t, Scenes.colour(s + 1, t + 1, 8 * s + t));
            }
        }
        pipe.step(7, 0, 4, 5);
        for (int s = 0; s < 8; s++) {
            for (int t = 0; t < 8; t++) {
                pipe.coords(0, 8 * s + 3, 8 * t + 7);
                pipe.draw(0, 0, 1);
                int want = Scenes.colour(s + 1, t + 1, 8 * s + t);
                checks.due("texel " + s + ", " + t, pipe.pixel(0, 0), want);
            }
        }
    }

    private static void texelColoursAtTheEnds() {
        PixelPipe pipe = new PixelPipe();
        pipe.step(7, 0, 4, 5);
        for (int colour : new int[] {16777215, 0, 16777214, 1, 0xFF0000, 0x00FF00, 0x0000FF}) {
            pipe.texel(0, 0, colour);
            pipe.draw(0, 0, 1);
            checks.due("texel of colour " + colour, pipe.pixel(0, 0), colour);
        }
    }
}
