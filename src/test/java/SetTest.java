/** Promise 6: set. */
public final class SetTest {
    private static final int[] GREATEST = {7, 1, 7, 15, 5, 5, 5, 4, 7, 2, 2, 1};
    private static final Checks checks = new Checks();

    public static void main(String[] args) {
        ranges();
        settingsThatAreNotThere();
        refusedSetChangesNothing();
        settingsAreApart();
        checks.end();
    }

    private static void ranges() {
        for (int setting = 0; setting < 12; setting++) {
            PixelPipe pipe = new PixelPipe();
            for (int v = 0; v <= GREATEST[setting]; v++) {
                checks.due("set(" + setting + ", " + v + ")", pipe.set(setting, v), true);
                checks.due("error() after it", pipe.error(), 0);
            }
            int[] bad = {-1, GREATEST[setting] + 1, Integer.MIN_VALUE, Integer.MAX_VALUE};
            for (int v : bad) {
                checks.refused("set(" + setting + ", " + v + ")", pipe, pipe.set(setting, v), PixelPipe.VALUE);
            }
        }
    }

    private static void settingsThatAreNotThere() {
        PixelPipe pipe = new PixelPipe();
        int[] none = {-1, 12, Integer.MIN_VALUE, Integer.MAX_VALUE};
        for (int setting : none) {
            checks.refused("set(" + setting + ", 0)", pipe, pipe.set(setting, 0), PixelPipe.ENUM);
            checks.refused("set(" + setting + ", -1)", pipe, pipe.set(setting, -1), PixelPipe.ENUM);
        }
    }

    private static void refusedSetChangesNothing() {
        PixelPipe pipe = new PixelPipe();
        pipe.set(6, 2);
        pipe.set(3, 11);
        pipe.set(3, 16);
        pipe.set(6, 6);
        pipe.draw(0, 0, 1);
        checks.due("stencil is the REF that was set last", pipe.at(0, 0, 1), 11);
    }

    private static void settingsAreApart() {
        PixelPipe pipe = new PixelPipe();
        pipe.set(4, 1);
        pipe.set(5, 3);
        pipe.set(6, 5);
        pipe.clear(2, 4);
        pipe.draw(0, 0, 1);
        checks.due("stencil after operation 2", pipe.at(0, 0, 1), 11);
        pipe.set(0, 0);
        pipe.draw(0, 0, 1);
        checks.due("stencil after operation 1", pipe.at(0, 0, 1), 12);
        pipe.set(2, 0);
        pipe.draw(0, 0, 1);
        checks.due("stencil after operation 0", pipe.at(0, 0, 1), 0);
    }
}
