/** All promises: no call fails, whatever its numbers are, and what the answers say of one another holds. */
public final class WildCallsTest {
    private static final int OBJECTS = 3000;
    // With error() after each and count() after draws, this stays below the 512 calls of an object.
    private static final int CALLS = 100;
    private static final int[] EDGES = {
        Integer.MIN_VALUE, Integer.MIN_VALUE + 1, -1001, -1000, -801, -800, -65, -1, 0, 1, 2, 3, 4, 5, 6, 7, 8, 9, 10, 11,
        12, 15, 16, 23, 24, 25, 63, 64, 65, 128, 191, 255, 256, 800, 801, 1000, 1001, 1023, 1024, 16777215, 16777216,
        Integer.MAX_VALUE - 1, Integer.MAX_VALUE};
    private static final Checks checks = new Checks();
    private static int state = 99;

    public static void main(String[] args) {
        for (int n = 0; n < OBJECTS; n++) {
            PixelPipe pipe = new PixelPipe();
            for (int call = 0; call < CALLS; call++) {
                one(pipe);
            }
            screenIsInRange(pipe);
        }
        checks.end();
    }

    /** Always the same row of numbers. */
    private static int next(int bound) {
        state = state * 1103515245 + 12345;
        return (state >>> 16) % bound;
    }

    private static int wild(int least, int most) {
        return next(8) == 0 ? EDGES[next(EDGES.length)] : least + next(most - least + 1);
    }

    private static void one(PixelPipe pipe) {
        boolean good;
        switch (next(12)) {
            case 0:
            case 1:
                good = pipe.vertex(wild(0, 23), wild(-60, 250), wild(-60, 190), wild(0, 1023), wild(1, 64));
                break;
            case 2:
                good = pipe.paint(wild(0, 23), wild(0, 255), wild(0, 255), wild(0, 255), wild(0, 255));
                break;
            case 3:
                good = pipe.coords(wild(0, 23), wild(-1000, 1000), wild(-1000, 1000));
                break;
            case 4:
                good = pipe.texel(wild(0, 7), wild(0, 7), wild(0, 30000));
                break;
            case 5:
                good = pipe.set(wild(0, 11), wild(0, 7));
                break;
            case 6:
                good = pipe.scissor(wild(0, 12), wild(0, 8), wild(0, 12), wild(0, 8));
                break;
            case 7:
                good = pipe.clear(wild(0, 2), wild(0, 15));
                break;
            case 8:
                good = pipe.step(wild(0, 9), wild(0, 7), wild(0, 7), wild(0, 7)) != -1;
                break;
            case 9:
                good = pipe.keep(wild(0, 10));
                break;
            default:
                good = draw(pipe);
                break;
        }
        int error = pipe.error();
        checks.due("a call that is refused keeps an error", good, error == 0);
        checks.due("the error is one that there is", error >= 0 && error <= 3, true);
    }

    private static boolean draw(PixelPipe pipe) {
        int passed = pipe.draw(wild(0, 3), wild(0, 12), wild(0, 12));
        if (passed == -1) {
            return false;
        }
        checks.due("draw's answer is count(4)", passed, pipe.count(4));
        checks.due("the counts add up", pipe.count(0),
                pipe.count(1) + pipe.count(2) + pipe.count(3) + pipe.count(4));
        return true;
    }

    private static void screenIsInRange(PixelPipe pipe) {
        boolean good = true;
        for (int n = 0; n < 20; n++) {
            int x = next(Scenes.WIDTH);
            int y = next(Scenes.HEIGHT);
            int colour = pipe.pixel(x, y);
            int depth = pipe.at(x, y, 0);
            int stencil = pipe.at(x, y, 1);
            good = good && colour >= 0 && colour <= 0xFFFFFF
                    && depth >= 0 && depth <= 1023 && stencil >= 0 && stencil <= 15;
        }
        checks.due("colours, depths and stencils are in their ranges", good, true);
    }
}
