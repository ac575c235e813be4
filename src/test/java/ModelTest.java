/** All promises: in long mixed runs each answer is that of a second model of the document. */
public final class ModelTest {
    private static final int OBJECTS = 2000;
    // Together 500: nothing is promised of an object after its 512th call.
    private static final int DATA_CALLS = 100;
    private static final int TURNS = 100;
    private static final int LAST_LOOKS = 200;
    private static final Checks checks = new Checks();
    private static final WildCalls calls = new WildCalls(7);

    public static void main(String[] args) {
        for (int n = 0; n < OBJECTS; n++) {
            oneObject("object " + n + ": ");
        }
        checks.end();
    }

    private static void oneObject(String which) {
        PixelPipe pipe = new PixelPipe();
        Model model = new Model();
        for (int n = 0; n < DATA_CALLS; n++) {
            compare(which, calls.data(), pipe, model);
        }
        for (int n = 0; n < TURNS; n++) {
            compare(which, calls.change(), pipe, model);
            compare(which, calls.look(), pipe, model);
        }
        for (int n = 0; n < LAST_LOOKS; n++) {
            compare(which, calls.look(), pipe, model);
        }
    }

    private static void compare(String which, Call call, PixelPipe pipe, Model model) {
        checks.due(which + call, call.on(pipe), call.on(model));
    }
}
