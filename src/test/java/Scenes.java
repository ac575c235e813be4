/** Calls that many tests begin with. */
final class Scenes {
    static final int WIDTH = 24;
    static final int HEIGHT = 16;

    private Scenes() {
    }

    /** A point in the middle of a pixel. */
    static void point(PixelPipe pipe, int i, int x, int y, int z) {
        pipe.vertex(i, 8 * x + 4, 8 * y + 4, z, 1);
    }

    /** Four vertices of a rectangle of whole pixels, FRONT when drawn as a fan. */
    static void rectangle(PixelPipe pipe, int first, int x, int y, int w, int h) {
        pipe.vertex(first, 8 * x, 8 * y, 0, 1);
        pipe.vertex(first + 1, 8 * (x + w), 8 * y, 0, 1);
        pipe.vertex(first + 2, 8 * (x + w), 8 * (y + h), 0, 1);
        pipe.vertex(first + 3, 8 * x, 8 * (y + h), 0, 1);
    }

    /**
     * Three vertices of a FRONT triangle whose weights at the pixel x, y are 8 - x - y, x and y, each times 512.
     * It covers the pixels with x + y below 8.
     */
    static void eighths(PixelPipe pipe, int za, int zb, int zc) {
        pipe.vertex(0, 4, 4, za, 1);
        pipe.vertex(1, 68, 4, zb, 1);
        pipe.vertex(2, 4, 68, zc, 1);
    }

    /** Makes the stencil of a pixel tell how often it was covered. */
    static void countCover(PixelPipe pipe) {
        pipe.clear(2, 0);
        pipe.set(6, 3);
    }

    static int colour(int first, int second, int third) {
        return first * 65536 + second * 256 + third;
    }

    /**
     * Whether at the program's end a register is just this int, for a pixel of vertex 0 drawn as a point.
     * It needs room for five steps, and takes them back.
     */
    static boolean registerIs(PixelPipe pipe, int steps, int register, int want) {
        int wanted = (register + 1) % 8;
        int difference = (register + 2) % 8;
        pipe.step(8, wanted, want, 0);
        pipe.step(2, difference, register, wanted);
        pipe.step(9, 0, difference, 0);
        pipe.step(2, difference, wanted, register);
        pipe.step(9, 0, difference, 0);
        boolean same = pipe.draw(0, 0, 1) == 1;
        pipe.keep(steps);
        return same;
    }
}
