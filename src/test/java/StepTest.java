/** Promises 9 and 10: step and keep. Ranges are in RangesTest, the order of errors in ErrorOrderTest. */
public final class StepTest {
    private static final Checks checks = new Checks();

    public static void main(String[] args) {
        numbersThatAreNotUsed();
        lastRegistersAreUsed();
        howMany();
        roomForTen();
        allTenAreDone();
        roomAfterKeep();
        refusedStepAddsNothing();
        keepNone();
        keepAll();
        keepMoreThanThereAre();
        keepOfTen();
        keepDropsTheLast();
        checks.end();
    }

    private static void numbersThatAreNotUsed() {
        for (int op = 0; op < 10; op++) {
            for (int place = 1; place <= 3; place++) {
                if (!Ranges.isRegister(op, place)) {
                    for (int v : new int[] {-1, 8, 99, Integer.MIN_VALUE, Integer.MAX_VALUE}) {
                        isNoError(new Call("step", op, 0, 0, 0).with(place, v));
                    }
                }
            }
        }
    }

    private static void isNoError(Call step) {
        PixelPipe pipe = new PixelPipe();
        checks.due(step.toString(), step.on(pipe), 1);
        checks.due(step + ", then error()", pipe.error(), 0);
        // What is not used must do no harm when the program runs either.
        checks.due(step + ", then draw", pipe.draw(0, 0, 1), 1);
    }

    private static void lastRegistersAreUsed() {
        for (int op = 0; op < 10; op++) {
            PixelPipe pipe = new PixelPipe();
            checks.due("step(" + op + ", 7, 7, 7)", pipe.step(op, 7, 7, 7), 1);
            checks.due("step(" + op + ", 0, 0, 0)", pipe.step(op, 0, 0, 0), 2);
            checks.due("error() after both", pipe.error(), 0);
            checks.due("draw with both", pipe.draw(0, 0, 1), 1);
        }
    }

    private static PixelPipe withSteps(int steps) {
        PixelPipe pipe = new PixelPipe();
        for (int n = 0; n < steps; n++) {
            pipe.step(1, 0, 0, 1);
        }
        return pipe;
    }

    private static void howMany() {
        PixelPipe pipe = new PixelPipe();
        for (int n = 1; n <= 10; n++) {
            checks.due("step number " + n, pipe.step(1, 0, 0, 1), n);
            checks.due("error() after it", pipe.error(), 0);
        }
    }

    private static void roomForTen() {
        PixelPipe pipe = withSteps(10);
        for (int n = 0; n < 3; n++) {
            checks.refused("step number 11", pipe, pipe.step(1, 0, 0, 1), PixelPipe.ROOM);
        }
        checks.due("keep(11)", pipe.keep(11), false);
        checks.due("keep(10)", pipe.keep(10), true);
    }

    private static void allTenAreDone() {
        for (int steps = 0; steps <= 10; steps++) {
            PixelPipe pipe = withSteps(steps);
            pipe.paint(0, 5, 7, 0, 0);
            pipe.draw(0, 0, 1);
            checks.due(steps + " steps that add 7 to 5", pipe.pixel(0, 0), Scenes.colour(5 + 7 * steps, 7, 0));
        }
    }

    private static void roomAfterKeep() {
        PixelPipe pipe = withSteps(10);
        checks.due("keep(9)", pipe.keep(9), true);
        checks.due("step number 10 anew", pipe.step(0, 0, 0, 0), 10);
        checks.refused("step number 11", pipe, pipe.step(0, 0, 0, 0), PixelPipe.ROOM);
        checks.due("keep(0)", pipe.keep(0), true);
        for (int n = 1; n <= 10; n++) {
            checks.due("step number " + n + " anew", pipe.step(0, 0, 0, 0), n);
        }
        checks.refused("step number 11", pipe, pipe.step(0, 0, 0, 0), PixelPipe.ROOM);
    }

    private static void refusedStepAddsNothing() {
        PixelPipe pipe = new PixelPipe();
        pipe.step(8, 0, 9, 0);
        pipe.step(8, 8, 10, 0);
        pipe.step(10, 0, 10, 0);
        checks.due("keep(2)", pipe.keep(2), false);
        pipe.draw(0, 0, 1);
        checks.due("pixel by the one step", pipe.pixel(0, 0), Scenes.colour(9, 0, 0));
    }

    private static void keepNone() {
        PixelPipe pipe = new PixelPipe();
        checks.due("keep(0) of none", pipe.keep(0), true);
        checks.refused("keep(1) of none", pipe, pipe.keep(1), PixelPipe.VALUE);
        checks.refused("keep(-1) of none", pipe, pipe.keep(-1), PixelPipe.VALUE);
        pipe.step(0, 0, 1, 0);
        checks.due("keep(0) of one", pipe.keep(0), true);
        checks.due("a step after keep(0)", pipe.step(0, 0, 0, 0), 1);
    }

    private static void keepAll() {
        PixelPipe pipe = withSteps(2);
        checks.due("keep(2) of two", pipe.keep(2), true);
        checks.due("keep(2) of two again", pipe.keep(2), true);
        checks.due("a step after keep(2)", pipe.step(0, 0, 0, 0), 3);
    }

    /** Also where there once were so many. */
    private static void keepMoreThanThereAre() {
        PixelPipe pipe = withSteps(4);
        pipe.keep(2);
        for (int n : new int[] {3, 4, 10, 11, Integer.MAX_VALUE, -1, Integer.MIN_VALUE}) {
            checks.refused("keep(" + n + ") of two", pipe, pipe.keep(n), PixelPipe.VALUE);
        }
        checks.due("a step after them", pipe.step(0, 0, 0, 0), 3);
    }

    private static void keepOfTen() {
        for (int n = 0; n < 10; n++) {
            PixelPipe pipe = withSteps(10);
            checks.due("keep(" + n + ") of ten", pipe.keep(n), true);
            checks.refused("keep(" + (n + 1) + ") then", pipe, pipe.keep(n + 1), PixelPipe.VALUE);
            checks.due("a step then", pipe.step(0, 0, 0, 0), n + 1);
        }
    }

    private static void keepDropsTheLast() {
        PixelPipe pipe = new PixelPipe();
        pipe.step(8, 0, 1, 0);
        pipe.step(8, 1, 2, 0);
        pipe.step(8, 2, 3, 0);
        pipe.keep(2);
        pipe.draw(0, 0, 1);
        checks.due("pixel by the first two steps", pipe.pixel(0, 0), Scenes.colour(1, 2, 0));
        pipe.step(8, 2, 9, 0);
        pipe.draw(0, 0, 1);
        checks.due("pixel with another third step", pipe.pixel(0, 0), Scenes.colour(1, 2, 9));
        pipe.keep(0);
        pipe.draw(0, 0, 1);
        checks.due("pixel without a program", pipe.pixel(0, 0), 0);
    }
}
