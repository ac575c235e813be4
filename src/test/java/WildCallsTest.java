/** All promises: no call fails, whatever its numbers are, and what the answers say of one another holds. */
public final class WildCallsTest {
    private static final int OBJECTS = 3000;
    // With error() after each and count() after draws, this stays below the 512 calls of an object.
    private static final int CALLS = 70;
    private static final Checks checks = new Checks();
    private static final WildCalls calls = new WildCalls(99);

    public static void main(String[] args) {
        for (int n = 0; n < OBJECTS; n++) {
            PixelPipe pipe = new PixelPipe();
            for (int call = 0; call < CALLS; call++) {
                one(pipe, call % 2 == 0 ? calls.data() : calls.change());
            }
            screenIsInRange(pipe);
        }
        checks.end();
    }

    private static void one(PixelPipe pipe, Call call) {
        int answer = call.on(pipe);
        boolean refused = answer == call.refusal();
        int error = pipe.error();
        checks.due(call + ": a call that is refused keeps an error", refused, error != 0);
        checks.due(call + ": the error is one that there is", error >= 0 && error <= 3, true);
        if (call.is("draw") && !refused) {
            countsAgree(pipe, answer);
        }
    }

    private static void countsAgree(PixelPipe pipe, int passed) {
        checks.due("draw's answer is count(4)", passed, pipe.count(4));
        checks.due("the counts add up", pipe.count(0),
                pipe.count(1) + pipe.count(2) + pipe.count(3) + pipe.count(4));
    }

    private static void screenIsInRange(PixelPipe pipe) {
        boolean good = true;
        for (int n = 0; n < 20; n++) {
            int x = calls.next(Scenes.WIDTH);
            int y = calls.next(Scenes.HEIGHT);
            int colour = pipe.pixel(x, y);
            int depth = pipe.at(x, y, 0);
            int stencil = pipe.at(x, y, 1);
            good = good && colour >= 0 && colour <= 0xFFFFFF
                    && depth >= 0 && depth <= 1023 && stencil >= 0 && stencil <= 15;
        }
        checks.due("colours, depths and stencils are in their ranges", good, true);
    }
}
