/** Counts answers that are not the ones that are due, and ends a test. */
final class Checks {
    private int wrong = 0;

    void due(String call, long got, long want) {
        if (got != want) {
            wrong++;
            System.out.println(call + " answered " + got + ", due is " + want);
        }
    }

    void due(String call, boolean got, boolean want) {
        if (got != want) {
            wrong++;
            System.out.println(call + " answered " + got + ", due is " + want);
        }
    }

    /** A call that must be refused with one kind of error, and with no other one kept after it. */
    void refused(String call, PixelPipe pipe, boolean got, int kind) {
        due(call, got, false);
        due(call + ", then error()", pipe.error(), kind);
        due(call + ", then error() again", pipe.error(), 0);
    }

    void refused(String call, PixelPipe pipe, int got, int kind) {
        due(call, got, -1);
        due(call + ", then error()", pipe.error(), kind);
        due(call + ", then error() again", pipe.error(), 0);
    }

    void end() {
        if (wrong != 0) {
            System.out.println(wrong + " answers are not as due");
            System.exit(1);
        }
    }
}
