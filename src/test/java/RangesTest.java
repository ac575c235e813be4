/** Promises 2 to 11 and 16: each number of each call just inside, just outside and far outside of its range. */
public final class RangesTest {
    private static final Checks checks = new Checks();

    public static void main(String[] args) {
        for (Ranges.Range range : Ranges.all()) {
            for (int v : range.inside()) {
                taken(range, v);
            }
            for (int v : range.outside()) {
                refused(range, v);
            }
        }
        checks.end();
    }

    private static PixelPipe withSteps(int steps) {
        PixelPipe pipe = new PixelPipe();
        for (int n = 0; n < steps; n++) {
            pipe.step(0, 0, 0, 0);
        }
        return pipe;
    }

    private static void taken(Ranges.Range range, int v) {
        PixelPipe pipe = withSteps(range.steps());
        Call call = range.call().with(range.place(), v);
        int got = call.on(pipe);
        checks.due(call + " with " + range.steps() + " steps is taken", got != call.refusal(), true);
        checks.due(call + ", then error()", pipe.error(), 0);
    }

    private static void refused(Ranges.Range range, int v) {
        PixelPipe pipe = withSteps(range.steps());
        Call call = range.call().with(range.place(), v);
        String told = call + " with " + range.steps() + " steps";
        checks.due(told, call.on(pipe), call.refusal());
        checks.due(told + ", then error()", pipe.error(), range.kind());
        checks.due(told + ", then error() again", pipe.error(), 0);
    }
}
