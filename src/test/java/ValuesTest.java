/** Promise 11: the values between vertices, with perspective, and FLAT (also promise 16). */
public final class ValuesTest {
    private static final Checks checks = new Checks();

    public static void main(String[] args) {
        depthIsWithoutPerspective();
        coloursHavePerspective();
        coordsAreRoundedDownwards();
        roundedJustBelowAndJustAt();
        roundedDownwardsBelowZero();
        equalValuesStay();
        cornersHaveTheirOwnValues();
        turnedTriangleHasTheSameValues();
        pointHasTheValuesOfItsVertex();
        flatTriangles();
        flatStripAndFan();
        flatPoints();
        checks.end();
    }

    private static void depthIsWithoutPerspective() {
        PixelPipe pipe = new PixelPipe();
        pipe.vertex(0, 4, 4, 1000, 1);
        pipe.vertex(1, 68, 4, 101, 40);
        pipe.vertex(2, 4, 68, 6, 9);
        checks.due("triangle", pipe.draw(1, 0, 3), 36);
        for (int y = 0; y < 8; y++) {
            for (int x = 0; x + y < 8; x++) {
                int want = ((8 - x - y) * 1000 + x * 101 + y * 6) / 8;
                checks.due("depth at " + x + ", " + y, pipe.at(x, y, 0), want);
            }
        }
        checks.due("depth on the edge that has not its middles", pipe.at(4, 4, 0), 1023);
    }

    private static void coloursHavePerspective() {
        PixelPipe pipe = new PixelPipe();
        pipe.vertex(0, 4, 4, 0, 2);
        pipe.vertex(1, 68, 4, 0, 64);
        pipe.vertex(2, 4, 68, 0, 7);
        pipe.paint(0, 255, 10, 0, 0);
        pipe.paint(1, 3, 200, 100, 0);
        pipe.paint(2, 90, 0, 255, 0);
        pipe.draw(1, 0, 3);
        for (int y = 0; y < 8; y++) {
            for (int x = 0; x + y < 8; x++) {
                int a = (8 - x - y) * 2;
                int b = x * 64;
                int c = y * 7;
                int sum = a + b + c;
                int want = Scenes.colour((a * 255 + b * 3 + c * 90) / sum,
                        (a * 10 + b * 200) / sum, (b * 100 + c * 255) / sum);
                checks.due("colour at " + x + ", " + y, pipe.pixel(x, y), want);
            }
        }
    }

    private static void coordsAreRoundedDownwards() {
        PixelPipe pipe = new PixelPipe();
        pipe.vertex(0, 4, 4, 0, 1);
        pipe.vertex(1, 68, 4, 0, 3);
        pipe.vertex(2, 4, 68, 0, 2);
        pipe.coords(0, -100, 3);
        pipe.coords(1, -7, -90);
        pipe.coords(2, 60, -1);
        pipe.paint(0, 0, 0, 0, 200);
        pipe.paint(1, 0, 0, 0, 15);
        pipe.paint(2, 0, 0, 0, 90);
        pipe.step(8, 6, 128, 0);
        pipe.step(1, 0, 4, 6);
        pipe.step(1, 1, 5, 6);
        pipe.step(0, 2, 3, 0);
        pipe.draw(1, 0, 3);
        for (int y = 0; y < 8; y++) {
            for (int x = 0; x + y < 8; x++) {
                int a = 8 - x - y;
                int b = x * 3;
                int c = y * 2;
                int s = Math.floorDiv(a * -100 + b * -7 + c * 60, a + b + c);
                int t = Math.floorDiv(a * 3 + b * -90 - c, a + b + c);
                int alpha = (a * 200 + b * 15 + c * 90) / (a + b + c);
                checks.due("s, t, alpha at " + x + ", " + y, pipe.pixel(x, y),
                        Scenes.colour(s + 128, t + 128, alpha));
            }
        }
    }

    /** At 1, 1 the weights are as 6, 1, 1: the sums are one less than, just, and one more than a multiple of 8. */
    private static void roundedJustBelowAndJustAt() {
        int[][] some = {{79, 9}, {80, 10}, {81, 10}, {7, 0}, {8, 1}, {0, 0}};
        for (int[] n : some) {
            PixelPipe pipe = new PixelPipe();
            Scenes.eighths(pipe, 0, n[0], 0);
            pipe.paint(1, n[0], 0, 0, 0);
            pipe.draw(1, 0, 3);
            checks.due("depth of " + n[0] + " by 8", pipe.at(1, 1, 0), n[1]);
            checks.due("colour of " + n[0] + " by 8", pipe.pixel(1, 1), Scenes.colour(n[1], 0, 0));
        }
    }

    private static void roundedDownwardsBelowZero() {
        int[][] some = {{-79, -10}, {-80, -10}, {-81, -11}, {-1, -1}, {-8, -1}, {-9, -2}, {0, 0}};
        for (int[] n : some) {
            PixelPipe pipe = new PixelPipe();
            Scenes.eighths(pipe, 0, 0, 0);
            pipe.coords(1, n[0], 0);
            pipe.coords(2, 0, n[0]);
            pipe.step(8, 6, 128, 0);
            pipe.step(1, 0, 4, 6);
            pipe.step(1, 1, 5, 6);
            pipe.draw(1, 0, 3);
            checks.due("s and t of " + n[0] + " by 8", pipe.pixel(1, 1), Scenes.colour(128 + n[1], 128 + n[1], 0));
        }
    }

    /** Whatever the weights and q are, a value that is the same at each vertex is not changed by a rounding. */
    private static void equalValuesStay() {
        for (int v : new int[] {0, 1, 254, 255}) {
            PixelPipe pipe = new PixelPipe();
            pipe.vertex(0, -800, -799, 4 * v, 64);
            pipe.vertex(1, 800, -797, 4 * v, 1);
            pipe.vertex(2, 3, 800, 4 * v, 37);
            for (int i = 0; i < 3; i++) {
                pipe.paint(i, v, v, v, v);
                pipe.coords(i, -1000, 1000);
            }
            checks.due("a triangle about the screen", pipe.draw(1, 0, 3), 384);
            for (int x = 0; x < Scenes.WIDTH; x++) {
                checks.due("colour of " + v + " everywhere", pipe.pixel(x, x % 16), Scenes.colour(v, v, v));
                checks.due("depth of " + v + " everywhere", pipe.at(x, x % 16, 0), 4 * v);
            }
            pipe.step(8, 6, 1000, 0);
            pipe.step(1, 4, 4, 6);
            pipe.step(2, 5, 5, 6);
            pipe.step(9, 0, 4, 0);
            pipe.step(9, 0, 5, 0);
            checks.due("s is at least -1000 and t at least 1000 everywhere", pipe.draw(1, 0, 3), 384);
            pipe.keep(3);
            pipe.step(8, 6, 0, 0);
            pipe.step(2, 4, 6, 4);
            pipe.step(2, 5, 6, 5);
            pipe.step(9, 0, 4, 0);
            pipe.step(9, 0, 5, 0);
            checks.due("s is at most -1000 and t at most 1000 everywhere", pipe.draw(1, 0, 3), 384);
        }
    }

    /** At the middle on a corner the two other weights are 0. */
    private static void cornersHaveTheirOwnValues() {
        PixelPipe pipe = new PixelPipe();
        pipe.vertex(0, 4, 4, 1023, 1);
        pipe.vertex(1, 68, 4, 0, 64);
        pipe.vertex(2, 4, 68, 0, 64);
        pipe.paint(0, 255, 254, 1, 0);
        pipe.paint(1, 0, 0, 255, 255);
        pipe.paint(2, 0, 0, 255, 255);
        pipe.draw(1, 0, 3);
        checks.due("colour at the corner", pipe.pixel(0, 0), Scenes.colour(255, 254, 1));
        checks.due("depth at the corner", pipe.at(0, 0, 0), 1023);
    }

    private static void turnedTriangleHasTheSameValues() {
        PixelPipe pipe = new PixelPipe();
        pipe.vertex(0, 4, 4, 80, 1);
        pipe.vertex(1, 4, 68, 160, 5);
        pipe.vertex(2, 68, 4, 240, 3);
        pipe.paint(0, 200, 0, 0, 0);
        pipe.paint(1, 0, 200, 0, 0);
        pipe.paint(2, 0, 0, 200, 0);
        checks.due("turned triangle", pipe.draw(1, 0, 3), 36);
        for (int y = 0; y < 8; y++) {
            for (int x = 0; x + y < 8; x++) {
                int a = 8 - x - y;
                int b = y * 5;
                int c = x * 3;
                int sum = a + b + c;
                checks.due("turned: depth at " + x + ", " + y, pipe.at(x, y, 0), a * 10 + y * 20 + x * 30);
                checks.due("turned: colour at " + x + ", " + y, pipe.pixel(x, y),
                        Scenes.colour(a * 200 / sum, b * 200 / sum, c * 200 / sum));
            }
        }
    }

    private static void pointHasTheValuesOfItsVertex() {
        PixelPipe pipe = new PixelPipe();
        pipe.vertex(0, 45, 70, 321, 64);
        pipe.paint(0, 11, 22, 33, 44);
        pipe.coords(0, -555, 666);
        int[] want = {11, 22, 33, 44, -555, 666, 5, 321};
        for (int register = 0; register < 8; register++) {
            checks.due("point: register " + register,
                    Scenes.registerIs(pipe, 0, register, want[register]), true);
        }
        pipe.draw(0, 0, 1);
        checks.due("point: pixel", pipe.pixel(5, 8), Scenes.colour(11, 22, 33));
        checks.due("point: depth", pipe.at(5, 8, 0), 321);
    }

    private static void paintThree(PixelPipe pipe) {
        pipe.paint(0, 1, 2, 3, 4);
        pipe.paint(1, 11, 12, 13, 14);
        pipe.paint(2, 21, 22, 23, 24);
        pipe.set(11, 1);
    }

    private static void flatTriangles() {
        PixelPipe pipe = new PixelPipe();
        Scenes.eighths(pipe, 0, 80, 160);
        paintThree(pipe);
        pipe.coords(1, 80, 0);
        pipe.draw(1, 0, 3);
        checks.due("flat: pixel", pipe.pixel(1, 1), Scenes.colour(21, 22, 23));
        checks.due("flat: depth is not flat", pipe.at(1, 1, 0), 30);
        pipe.step(0, 0, 3, 0);
        pipe.step(0, 1, 4, 0);
        pipe.draw(1, 0, 3);
        checks.due("flat: alpha is flat, s is not", pipe.pixel(1, 1), Scenes.colour(24, 10, 23));
        pipe.keep(0);
        pipe.vertex(1, 4, 68, 0, 1);
        pipe.vertex(2, 68, 4, 0, 1);
        checks.due("flat: turned triangle", pipe.draw(1, 0, 3), 36);
        checks.due("flat: pixel of the turned triangle", pipe.pixel(1, 1), Scenes.colour(21, 22, 23));
    }

    /** The same square as a strip and as a fan, once of FRONT triangles and once of turned ones. */
    private static void flatStripAndFan() {
        int[][] corners = {{0, 0}, {64, 0}, {64, 64}, {0, 64}};
        int[][] strips = {{0, 1, 3, 2}, {0, 3, 1, 2}};
        int[][] fans = {{0, 1, 2, 3}, {0, 3, 2, 1}};
        for (int turned = 0; turned < 2; turned++) {
            flatSquare(2, turned, corners, strips[turned], new int[] {0, 0, 7, 7});
            flatSquare(3, turned, corners, fans[turned], turned == 0 ? new int[] {7, 0, 0, 7} : new int[] {0, 7, 7, 0});
        }
    }

    private static void flatSquare(int mode, int turned, int[][] corners, int[] order, int[] places) {
        PixelPipe pipe = new PixelPipe();
        for (int i = 0; i < 4; i++) {
            pipe.vertex(i, corners[order[i]][0], corners[order[i]][1], 0, 1);
        }
        paintThree(pipe);
        pipe.paint(3, 31, 32, 33, 34);
        String told = "flat, mode " + mode + ", turned " + turned;
        // That the one and not the other kind is culled shows that all are FRONT, or that all are turned.
        pipe.set(9, turned == 0 ? 1 : 2);
        checks.due(told, pipe.draw(mode, 0, 4), 64);
        checks.due(told + ": first triangle", pipe.pixel(places[0], places[1]), Scenes.colour(21, 22, 23));
        checks.due(told + ": second triangle", pipe.pixel(places[2], places[3]), Scenes.colour(31, 32, 33));
    }

    private static void flatPoints() {
        PixelPipe pipe = new PixelPipe();
        for (int i = 0; i < 3; i++) {
            Scenes.point(pipe, i, i, 0, 0);
        }
        paintThree(pipe);
        pipe.draw(0, 0, 3);
        checks.due("flat points: first", pipe.pixel(0, 0), Scenes.colour(1, 2, 3));
        checks.due("flat points: last", pipe.pixel(2, 0), Scenes.colour(21, 22, 23));
    }
}
