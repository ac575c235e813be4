/** Promise 11: the values between vertices, with perspective, and FLAT (also promise 16). */
public final class ValuesTest {
    private static final Checks checks = new Checks();

    public static void main(String[] args) {
        depthIsWithoutPerspective();
        coloursHavePerspective();
        coordsAreRoundedDownwards();
        turnedTriangleHasTheSameValues();
        pointHasTheValuesOfItsVertex();
        flatTriangles();
        flatStripAndFan();
        flatPoints();
        checks.end();
    }

    private static void depthIsWithoutPerspective() {
        PixelPipe pipe = new PixelPipe();
        pipe.vertex(0, 4, 4, 1000, 1);
        pipe.vertex(1, 68, 4, 101, 40);
        pipe.vertex(2, 4, 68, 6, 9);
        checks.due("triangle", pipe.draw(1, 0, 3), 36);
        for (int y = 0; y < 8; y++) {
            for (int x = 0; x + y < 8; x++) {
                int want = ((8 - x - y) * 1000 + x * 101 + y * 6) / 8;
                checks.due("depth at " + x + ", " + y, pipe.at(x, y, 0), want);
            }
        }
        checks.due("depth on the edge that has not its middles", pipe.at(4, 4, 0), 1023);
    }

    private static void coloursHavePerspective() {
        PixelPipe pipe = new PixelPipe();
        pipe.vertex(0, 4, 4, 0, 2);
        pipe.vertex(1, 68, 4, 0, 64);
        pipe.vertex(2, 4, 68, 0, 7);
        pipe.paint(0, 255, 10, 0, 0);
        pipe.paint(1, 3, 200, 100, 0);
        pipe.paint(2, 90, 0, 255, 0);
        pipe.draw(1, 0, 3);
        for (int y = 0; y < 8; y++) {
            for (int x = 0; x + y < 8; x++) {
                int a = (8 - x - y) * 2;
                int b = x * 64;
                int c = y * 7;
                int sum = a + b + c;
                int want = Scenes.colour((a * 255 + b * 3 + c * 90) / sum,
                        (a * 10 + b * 200) / sum, (b * 100 + c * 255) / sum);
                checks.due("colour at " + x + ", " + y, pipe.pixel(x, y), want);
            }
        }
    }

    private static void coordsAreRoundedDownwards() {
        PixelPipe pipe = new PixelPipe();
        pipe.vertex(0, 4, 4, 0, 1);
        pipe.vertex(1, 68, 4, 0, 3);
        pipe.vertex(2, 4, 68, 0, 2);
        pipe.coords(0, -100, 3);
        pipe.coords(1, -7, -90);
        pipe.coords(2, 60, -1);
        pipe.paint(0, 0, 0, 0, 200);
        pipe.paint(1, 0, 0, 0, 15);
        pipe.paint(2, 0, 0, 0, 90);
        pipe.step(8, 6, 128, 0);
        pipe.step(1, 0, 4, 6);
        pipe.step(1, 1, 5, 6);
        pipe.step(0, 2, 3, 0);
        pipe.draw(1, 0, 3);
        for (int y = 0; y < 8; y++) {
            for (int x = 0; x + y < 8; x++) {
                int a = 8 - x - y;
                int b = x * 3;
                int c = y * 2;
                int s = Math.floorDiv(a * -100 + b * -7 + c * 60, a + b + c);
                int t = Math.floorDiv(a * 3 + b * -90 - c, a + b + c);
                int alpha = (a * 200 + b * 15 + c * 90) / (a + b + c);
                checks.due("s, t, alpha at " + x + ", " + y, pipe.pixel(x, y),
                        Scenes.colour(s + 128, t + 128, alpha));
            }
        }
    }

    private static void turnedTriangleHasTheSameValues() {
        PixelPipe pipe = new PixelPipe();
        pipe.vertex(0, 4, 4, 80, 1);
        pipe.vertex(1, 4, 68, 160, 5);
        pipe.vertex(2, 68, 4, 240, 3);
        pipe.paint(0, 200, 0, 0, 0);
        pipe.paint(1, 0, 200, 0, 0);
        pipe.paint(2, 0, 0, 200, 0);
        checks.due("turned triangle", pipe.draw(1, 0, 3), 36);
        for (int y = 0; y < 8; y++) {
            for (int x = 0; x + y < 8; x++) {
                int a = 8 - x - y;
                int b = y * 5;
                int c = x * 3;
                int sum = a + b + c;
                checks.due("turned: depth at " + x + ", " + y, pipe.at(x, y, 0), a * 10 + y * 20 + x * 30);
                checks.due("turned: colour at " + x + ", " + y, pipe.pixel(x, y),
                        Scenes.colour(a * 200 / sum, b * 200 / sum, c * 200 / sum));
            }
        }
    }

    private static void pointHasTheValuesOfItsVertex() {
        PixelPipe pipe = new PixelPipe();
        pipe.vertex(0, 45, 70, 321, 64);
        pipe.paint(0, 11, 22, 33, 44);
        pipe.coords(0, -555, 666);
        int[] want = {11, 22, 33, 44, -555, 666, 5, 321};
        for (int register = 0; register < 8; register++) {
            checks.due("point: register " + register,
                    Scenes.registerIs(pipe, 0, register, want[register]), true);
        }
        pipe.draw(0, 0, 1);
        checks.due("point: pixel", pipe.pixel(5, 8), Scenes.colour(11, 22, 33));
        checks.due("point: depth", pipe.at(5, 8, 0), 321);
    }

    private static void paintThree(PixelPipe pipe) {
        pipe.paint(0, 1, 2, 3, 4);
        pipe.paint(1, 11, 12, 13, 14);
        pipe.paint(2, 21, 22, 23, 24);
        pipe.set(11, 1);
    }

    private static void flatTriangles() {
        PixelPipe pipe = new PixelPipe();
        Scenes.eighths(pipe, 0, 80, 160);
        paintThree(pipe);
        pipe.coords(1, 80, 0);
        pipe.draw(1, 0, 3);
        checks.due("flat: pixel", pipe.pixel(1, 1), Scenes.colour(21, 22, 23));
        checks.due("flat: depth is not flat", pipe.at(1, 1, 0), 30);
        pipe.step(0, 0, 3, 0);
        pipe.step(0, 1, 4, 0);
        pipe.draw(1, 0, 3);
        checks.due("flat: alpha is flat, s is not", pipe.pixel(1, 1), Scenes.colour(24, 10, 23));
        pipe.keep(0);
        pipe.vertex(1, 4, 68, 0, 1);
        pipe.vertex(2, 68, 4, 0, 1);
        checks.due("flat: turned triangle", pipe.draw(1, 0, 3), 36);
        checks.due("flat: pixel of the turned triangle", pipe.pixel(1, 1), Scenes.colour(21, 22, 23));
    }

    private static void flatStripAndFan() {
        PixelPipe pipe = new PixelPipe();
        pipe.vertex(0, 0, 0, 0, 1);
        pipe.vertex(1, 0, 64, 0, 1);
        pipe.vertex(2, 64, 0, 0, 1);
        pipe.vertex(3, 64, 64, 0, 1);
        paintThree(pipe);
        pipe.paint(3, 31, 32, 33, 34);
        checks.due("flat strip", pipe.draw(2, 0, 4), 64);
        checks.due("flat strip: first triangle", pipe.pixel(0, 0), Scenes.colour(21, 22, 23));
        checks.due("flat strip: second triangle", pipe.pixel(7, 7), Scenes.colour(31, 32, 33));
        Scenes.rectangle(pipe, 0, 0, 0, 8, 8);
        checks.due("flat fan", pipe.draw(3, 0, 4), 64);
        checks.due("flat fan: first triangle", pipe.pixel(7, 0), Scenes.colour(21, 22, 23));
        checks.due("flat fan: second triangle", pipe.pixel(0, 7), Scenes.colour(31, 32, 33));
    }

    private static void flatPoints() {
        PixelPipe pipe = new PixelPipe();
        for (int i = 0; i < 3; i++) {
            Scenes.point(pipe, i, i, 0, 0);
        }
        paintThree(pipe);
        pipe.draw(0, 0, 3);
        checks.due("flat points: first", pipe.pixel(0, 0), Scenes.colour(1, 2, 3));
        checks.due("flat points: last", pipe.pixel(2, 0), Scenes.colour(21, 22, 23));
    }
}
