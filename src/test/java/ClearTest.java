/** Promise 8: clear. Its ranges one by one are in RangesTest, the scissor in ScissorTest. */
public final class ClearTest {
    private static final int[] GREATEST = {16777215, 1023, 15};
    private static final Checks checks = new Checks();

    public static void main(String[] args) {
        endsOfRanges();
        colourMask();
        depthMask();
        masksHideNoError();
        leavesTheRest();
        isNoDraw();
        checks.end();
    }

    private static int cleared(PixelPipe pipe, int what) {
        return what == 0 ? pipe.pixel(23, 15) : pipe.at(23, 15, what - 1);
    }

    private static void endsOfRanges() {
        for (int what = 0; what < 3; what++) {
            PixelPipe pipe = new PixelPipe();
            for (int v : new int[] {0, 1, GREATEST[what] - 1, GREATEST[what]}) {
                checks.due("clear(" + what + ", " + v + ")", pipe.clear(what, v), true);
                checks.due("what clear(" + what + ", " + v + ") left", cleared(pipe, what), v);
            }
            for (int v : new int[] {-1, GREATEST[what] + 1, Integer.MIN_VALUE, Integer.MAX_VALUE}) {
                checks.refused("clear(" + what + ", " + v + ")", pipe, pipe.clear(what, v), PixelPipe.VALUE);
                checks.due("what clear(" + what + ", " + v + ") left", cleared(pipe, what), GREATEST[what]);
            }
        }
    }

    private static void colourMask() {
        int[] want = {0x112233, 0xAA2233, 0x11BB33, 0xAABB33, 0x1122CC, 0xAA22CC, 0x11BBCC, 0xAABBCC};
        for (int mask = 0; mask < 8; mask++) {
            PixelPipe pipe = new PixelPipe();
            pipe.clear(0, 0x112233);
            pipe.set(8, mask);
            checks.due("clear(0, ..) with colour MASK " + mask, pipe.clear(0, 0xAABBCC), true);
            checks.due("its pixel", pipe.pixel(7, 9), want[mask]);
        }
    }

    private static void depthMask() {
        PixelPipe pipe = new PixelPipe();
        pipe.clear(1, 50);
        pipe.set(1, 0);
        checks.due("clear(1, 60) with depth MASK 0", pipe.clear(1, 60), true);
        checks.due("its depth", pipe.at(3, 3, 0), 50);
        checks.due("clear(0, 5) with depth MASK 0", pipe.clear(0, 5), true);
        checks.due("its pixel", pipe.pixel(3, 3), 5);
        checks.due("clear(2, 5) with depth MASK 0", pipe.clear(2, 5), true);
        checks.due("its stencil", pipe.at(3, 3, 1), 5);
        pipe.set(1, 1);
        pipe.set(8, 0);
        pipe.clear(1, 70);
        checks.due("depth with colour MASK 0", pipe.at(3, 3, 0), 70);
        pipe.clear(2, 9);
        checks.due("stencil with colour MASK 0", pipe.at(3, 3, 1), 9);
    }

    private static void masksHideNoError() {
        PixelPipe pipe = new PixelPipe();
        pipe.set(1, 0);
        pipe.set(8, 0);
        checks.refused("clear(0, 16777216) with MASK 0", pipe, pipe.clear(0, 16777216), PixelPipe.VALUE);
        checks.refused("clear(1, 1024) with MASK 0", pipe, pipe.clear(1, 1024), PixelPipe.VALUE);
        checks.due("clear(0, 16777215) with MASK 0", pipe.clear(0, 16777215), true);
        checks.due("its pixel", pipe.pixel(0, 0), 0);
    }

    private static void leavesTheRest() {
        PixelPipe pipe = new PixelPipe();
        pipe.clear(0, 5);
        checks.due("depth after clear(0, 5)", pipe.at(1, 0, 0), 1023);
        checks.due("stencil after clear(0, 5)", pipe.at(1, 0, 1), 0);
        pipe.clear(1, 6);
        checks.due("pixel after clear(1, 6)", pipe.pixel(1, 0), 5);
        checks.due("stencil after clear(1, 6)", pipe.at(1, 0, 1), 0);
        pipe.clear(2, 7);
        checks.due("pixel after clear(2, 7)", pipe.pixel(1, 0), 5);
        checks.due("depth after clear(2, 7)", pipe.at(1, 0, 0), 6);
    }

    /** Tests, blending and the program are for what is drawn. */
    private static void isNoDraw() {
        PixelPipe pipe = new PixelPipe();
        pipe.draw(0, 0, 3);
        pipe.clear(0, 0x101010);
        pipe.set(0, 0);
        pipe.set(2, 0);
        pipe.set(4, 3);
        pipe.set(5, 3);
        pipe.set(6, 3);
        pipe.set(7, 2);
        pipe.step(8, 0, -1, 0);
        pipe.step(9, 0, 0, 0);
        pipe.clear(0, 0x202020);
        pipe.clear(1, 40);
        checks.due("pixel", pipe.pixel(4, 4), 0x202020);
        checks.due("depth", pipe.at(4, 4, 0), 40);
        checks.due("stencil", pipe.at(4, 4, 1), 0);
        checks.due("count(4) after all", pipe.count(4), 3);
    }
}
