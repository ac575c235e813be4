/** Promise 6: set. Its ranges are in RangesTest, what most settings do in PixelTestsTest, DrawTest and ProgramTest. */
public final class SetTest {
    private static final Checks checks = new Checks();

    public static void main(String[] args) {
        refusedSetKeepsTheOldOne();
        settingsAreApart();
        settingsAreSetAnew();
        refAtTheEnds();
        checks.end();
    }

    private static void refusedSetKeepsTheOldOne() {
        PixelPipe pipe = new PixelPipe();
        pipe.set(6, 2);
        pipe.set(3, 11);
        pipe.set(3, 16);
        pipe.set(6, 6);
        pipe.draw(0, 0, 1);
        checks.due("stencil is the REF that was set last", pipe.at(0, 0, 1), 11);
    }

    private static void settingsAreApart() {
        PixelPipe pipe = new PixelPipe();
        pipe.set(4, 1);
        pipe.set(5, 3);
        pipe.set(6, 5);
        pipe.clear(2, 4);
        pipe.draw(0, 0, 1);
        checks.due("stencil after operation 2", pipe.at(0, 0, 1), 11);
        pipe.set(0, 0);
        pipe.draw(0, 0, 1);
        checks.due("stencil after operation 1", pipe.at(0, 0, 1), 12);
        pipe.set(2, 0);
        pipe.draw(0, 0, 1);
        checks.due("stencil after operation 0", pipe.at(0, 0, 1), 0);
    }

    private static void settingsAreSetAnew() {
        PixelPipe pipe = new PixelPipe();
        pipe.set(0, 0);
        checks.due("depths are never so", pipe.draw(0, 0, 1), 0);
        pipe.set(0, 7);
        checks.due("depths are always so", pipe.draw(0, 0, 1), 1);
    }

    private static void refAtTheEnds() {
        PixelPipe pipe = new PixelPipe();
        pipe.set(6, 2);
        for (int ref : new int[] {0, 1, 14, 15}) {
            pipe.clear(2, 7);
            pipe.set(3, ref);
            pipe.draw(0, 0, 1);
            checks.due("stencil by REF " + ref, pipe.at(0, 0, 1), ref);
        }
    }
}
