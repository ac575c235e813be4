/** Promises 9 and 10: step and keep. */
public final class StepTest {
    private static final int[] BAD = {-1, 8, 99, Integer.MIN_VALUE, Integer.MAX_VALUE};
    private static final Checks checks = new Checks();

    public static void main(String[] args) {
        opsThatAreNotThere();
        registersThatAreUsed();
        registersAtTheEdge();
        room();
        refusedStepAddsNothing();
        keep();
        keepDropsTheLast();
        checks.end();
    }

    private static void opsThatAreNotThere() {
        PixelPipe pipe = new PixelPipe();
        int[] none = {-1, 10, Integer.MIN_VALUE, Integer.MAX_VALUE};
        for (int op : none) {
            checks.refused("step(" + op + ", 0, 0, 0)", pipe, pipe.step(op, 0, 0, 0), PixelPipe.ENUM);
            checks.refused("step(" + op + ", 8, 8, 8)", pipe, pipe.step(op, 8, 8, 8), PixelPipe.ENUM);
        }
    }

    private static void registersThatAreUsed() {
        for (int op = 0; op < 10; op++) {
            boolean usesD = op != 9;
            boolean usesA = op != 8;
            boolean usesB = op >= 1 && op <= 7;
            for (int v : BAD) {
                one("d", op, v, 0, 0, usesD);
                one("a", op, 0, v, 0, usesA);
                one("b", op, 0, 0, v, usesB);
            }
        }
    }

    private static void one(String which, int op, int d, int a, int b, boolean used) {
        PixelPipe pipe = new PixelPipe();
        String call = "step(" + op + ", " + d + ", " + a + ", " + b + ") by " + which;
        int got = pipe.step(op, d, a, b);
        if (used) {
            checks.refused(call, pipe, got, PixelPipe.VALUE);
        } else {
            checks.due(call, got, 1);
            checks.due(call + ", then error()", pipe.error(), 0);
            // What is not used must do no harm when the program runs either.
            checks.due(call + ", then draw", pipe.draw(0, 0, 1), 1);
        }
    }

    private static void registersAtTheEdge() {
        for (int op = 0; op < 10; op++) {
            PixelPipe pipe = new PixelPipe();
            checks.due("step(" + op + ", 7, 7, 7)", pipe.step(op, 7, 7, 7), 1);
            checks.due("step(" + op + ", 0, 0, 0)", pipe.step(op, 0, 0, 0), 2);
            checks.due("error() after both", pipe.error(), 0);
        }
    }

    private static void room() {
        PixelPipe pipe = new PixelPipe();
        for (int n = 1; n <= 10; n++) {
            checks.due("step number " + n, pipe.step(1, 0, 0, 1), n);
        }
        checks.refused("step number 11", pipe, pipe.step(1, 0, 0, 1), PixelPipe.ROOM);
        checks.refused("step without room, with a bad register", pipe, pipe.step(1, 8, 0, 1), PixelPipe.VALUE);
        checks.refused("step without room, with a bad op", pipe, pipe.step(10, 8, 0, 1), PixelPipe.ENUM);
        pipe.paint(0, 5, 7, 0, 0);
        pipe.draw(0, 0, 1);
        checks.due("ten steps that add 7 to 5", pipe.pixel(0, 0), Scenes.colour(75, 7, 0));
        pipe.keep(9);
        checks.due("step number 10 anew", pipe.step(0, 0, 0, 0), 10);
    }

    private static void refusedStepAddsNothing() {
        PixelPipe pipe = new PixelPipe();
        pipe.step(8, 0, 9, 0);
        pipe.step(8, 8, 10, 0);
        pipe.step(10, 0, 10, 0);
        checks.due("keep(2)", pipe.keep(2), false);
        pipe.draw(0, 0, 1);
        checks.due("pixel by the one step", pipe.pixel(0, 0), Scenes.colour(9, 0, 0));
    }

    private static void keep() {
        PixelPipe pipe = new PixelPipe();
        pipe.step(0, 0, 0, 0);
        pipe.step(0, 0, 0, 0);
        int[] bad = {-1, 3, 10, 11, Integer.MIN_VALUE, Integer.MAX_VALUE};
        for (int n : bad) {
            checks.refused("keep(" + n + ") of two", pipe, pipe.keep(n), PixelPipe.VALUE);
        }
        checks.due("keep(2)", pipe.keep(2), true);
        checks.due("a step after keep(2)", pipe.step(0, 0, 0, 0), 3);
        checks.due("keep(1)", pipe.keep(1), true);
        checks.refused("keep(2) of one", pipe, pipe.keep(2), PixelPipe.VALUE);
        checks.due("keep(0)", pipe.keep(0), true);
        checks.due("a step after keep(0)", pipe.step(0, 0, 0, 0), 1);
    }

    private static void keepDropsTheLast() {
        PixelPipe pipe = new PixelPipe();
        pipe.step(8, 0, 1, 0);
        pipe.step(8, 1, 2, 0);
        pipe.step(8, 2, 3, 0);
        pipe.keep(2);
        pipe.draw(0, 0, 1);
        checks.due("pixel by the first two steps", pipe.pixel(0, 0), Scenes.colour(1, 2, 0));
        pipe.step(8, 2, 9, 0);
        pipe.draw(0, 0, 1);
        checks.due("pixel with another third step", pipe.pixel(0, 0), Scenes.colour(1, 2, 9));
        pipe.keep(0);
        pipe.draw(0, 0, 1);
        checks.due("pixel without a program", pipe.pixel(0, 0), 0);
    }
}
