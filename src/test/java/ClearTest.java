/** Promise 8: clear. */
public final class ClearTest {
    private static final Checks checks = new Checks();

    public static void main(String[] args) {
        kindsThatAreNotThere();
        ranges();
        colourMask();
        depthMask();
        leavesTheRest();
        checks.end();
    }

    private static void kindsThatAreNotThere() {
        PixelPipe pipe = new PixelPipe();
        int[] none = {-1, 3, Integer.MIN_VALUE, Integer.MAX_VALUE};
        for (int what : none) {
            checks.refused("clear(" + what + ", 0)", pipe, pipe.clear(what, 0), PixelPipe.ENUM);
            checks.refused("clear(" + what + ", -1)", pipe, pipe.clear(what, -1), PixelPipe.ENUM);
        }
        checks.due("pixel(0, 0)", pipe.pixel(0, 0), 0);
        checks.due("at(0, 0, 0)", pipe.at(0, 0, 0), 1023);
        checks.due("at(0, 0, 1)", pipe.at(0, 0, 1), 0);
    }

    private static void ranges() {
        int[] greatest = {16777215, 1023, 15};
        for (int what = 0; what < 3; what++) {
            PixelPipe pipe = new PixelPipe();
            checks.due("clear(" + what + ", 0)", pipe.clear(what, 0), true);
            checks.due("clear(" + what + ", the most)", pipe.clear(what, greatest[what]), true);
            int[] bad = {-1, greatest[what] + 1, Integer.MIN_VALUE, Integer.MAX_VALUE};
            for (int v : bad) {
                checks.refused("clear(" + what + ", " + v + ")", pipe, pipe.clear(what, v), PixelPipe.VALUE);
            }
            int got = what == 0 ? pipe.pixel(23, 15) : pipe.at(23, 15, what - 1);
            checks.due("what clear(" + what + ", the most) left", got, greatest[what]);
        }
    }

    private static void colourMask() {
        int[] want = {0x112233, 0xAA2233, 0x11BB33, 0xAABB33, 0x1122CC, 0xAA22CC, 0x11BBCC, 0xAABBCC};
        for (int mask = 0; mask < 8; mask++) {
            PixelPipe pipe = new PixelPipe();
            pipe.clear(0, 0x112233);
            pipe.set(8, mask);
            checks.due("clear(0, ..) with colour MASK " + mask, pipe.clear(0, 0xAABBCC), true);
            checks.due("its pixel", pipe.pixel(7, 9), want[mask]);
        }
    }

    private static void depthMask() {
        PixelPipe pipe = new PixelPipe();
        pipe.clear(1, 50);
        pipe.set(1, 0);
        checks.due("clear(1, 60) with depth MASK 0", pipe.clear(1, 60), true);
        checks.due("its depth", pipe.at(3, 3, 0), 50);
        checks.refused("clear(1, 1024) with depth MASK 0", pipe, pipe.clear(1, 1024), PixelPipe.VALUE);
        checks.due("clear(0, 5) with depth MASK 0", pipe.clear(0, 5), true);
        checks.due("its pixel", pipe.pixel(3, 3), 5);
        checks.due("clear(2, 5) with depth MASK 0", pipe.clear(2, 5), true);
        checks.due("its stencil", pipe.at(3, 3, 1), 5);
        pipe.set(1, 1);
        pipe.set(8, 0);
        pipe.clear(1, 70);
        checks.due("depth with colour MASK 0", pipe.at(3, 3, 0), 70);
    }

    private static void leavesTheRest() {
        PixelPipe pipe = new PixelPipe();
        pipe.draw(0, 0, 3);
        pipe.clear(0, 5);
        checks.due("depth after clear(0, 5)", pipe.at(1, 0, 0), 1023);
        checks.due("stencil after clear(0, 5)", pipe.at(1, 0, 1), 0);
        pipe.clear(1, 6);
        checks.due("pixel after clear(1, 6)", pipe.pixel(1, 0), 5);
        checks.due("stencil after clear(1, 6)", pipe.at(1, 0, 1), 0);
        pipe.clear(2, 7);
        checks.due("pixel after clear(2, 7)", pipe.pixel(1, 0), 5);
        checks.due("depth after clear(2, 7)", pipe.at(1, 0, 0), 6);
        checks.due("count(4) after all", pipe.count(4), 3);
    }
}
