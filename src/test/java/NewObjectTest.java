/** Promise 1: what holds of an object that has just been made. */
public final class NewObjectTest {
    private static final Checks checks = new Checks();

    public static void main(String[] args) {
        constants();
        screen();
        answers();
        vertices();
        untouchedNearness();
        texture();
        scissor();
        settings();
        objectsAreApart();
        checks.end();
    }

    private static void constants() {
        checks.due("ENUM", PixelPipe.ENUM, 1);
        checks.due("VALUE", PixelPipe.VALUE, 2);
        checks.due("ROOM", PixelPipe.ROOM, 3);
    }

    private static void screen() {
        for (int y = 0; y < Scenes.HEIGHT; y++) {
            // A row at a time, since nothing is promised of an object after its 512th call.
            PixelPipe pipe = new PixelPipe();
            for (int x = 0; x < Scenes.WIDTH; x++) {
                String where = x + ", " + y;
                checks.due("new: pixel " + where, pipe.pixel(x, y), 0);
                checks.due("new: depth " + where, pipe.at(x, y, 0), 1023);
                checks.due("new: stencil " + where, pipe.at(x, y, 1), 0);
            }
        }
    }

    private static void answers() {
        PixelPipe pipe = new PixelPipe();
        checks.due("new: error()", pipe.error(), 0);
        for (int what = -1; what <= 6; what++) {
            checks.due("new: count(" + what + ")", pipe.count(what), 0);
        }
        checks.due("new: keep(0)", pipe.keep(0), true);
        checks.due("new: keep(1)", pipe.keep(1), false);
        checks.due("new: step(0, 0, 0, 0)", pipe.step(0, 0, 0, 0), 1);
    }

    private static void vertices() {
        for (int i = 0; i < 24; i++) {
            PixelPipe pipe = new PixelPipe();
            for (int register = 0; register < 8; register++) {
                checks.due("new: register " + register + " of vertex " + i,
                        pipe.draw(0, i, 1) == 1 && Scenes.registerIs(pipe, 0, register, 0), true);
            }
            checks.due("new: place and depth of vertex " + i, pipe.at(0, 0, 0), 0);
        }
    }

    private static void untouchedNearness() {
        PixelPipe pipe = new PixelPipe();
        pipe.vertex(1, 64, 0, 0, 3);
        pipe.vertex(2, 0, 64, 0, 3);
        pipe.paint(0, 200, 0, 0, 0);
        checks.due("new: vertices with q 3 beside the untouched one", pipe.draw(1, 0, 3), 28);
        // At 4, 4 the weights are 3584, 256, 256: 3584 * 200 / (3584 + 3 * 512) is 140.
        checks.due("new: q of an untouched vertex", pipe.pixel(0, 0), Scenes.colour(140, 0, 0));
    }

    private static void texture() {
        PixelPipe pipe = new PixelPipe();
        pipe.step(7, 0, 4, 5);
        for (int s = 0; s < 8; s++) {
            for (int t = 0; t < 8; t++) {
                pipe.clear(0, 0xFFFFFF);
                pipe.coords(0, 8 * s, 8 * t);
                pipe.draw(0, 0, 1);
                checks.due("new: texel " + s + ", " + t, pipe.pixel(0, 0), 0);
            }
        }
    }

    private static void scissor() {
        PixelPipe pipe = new PixelPipe();
        pipe.clear(0, 5);
        checks.due("new: scissor, first pixel", pipe.pixel(0, 0), 5);
        checks.due("new: scissor, top right", pipe.pixel(23, 0), 5);
        checks.due("new: scissor, bottom left", pipe.pixel(0, 15), 5);
        checks.due("new: scissor, last pixel", pipe.pixel(23, 15), 5);
    }

    private static void settings() {
        PixelPipe pipe = new PixelPipe();
        pipe.clear(0, 0x808080);
        pipe.clear(1, 3);
        pipe.clear(2, 6);
        pipe.vertex(0, 0, 0, 9, 1);
        pipe.paint(0, 10, 20, 30, 40);
        checks.due("new: depth is compared by 7, stencil by 7", pipe.draw(0, 0, 1), 1);
        checks.due("new: depth MASK", pipe.at(0, 0, 0), 9);
        checks.due("new: operation 2", pipe.at(0, 0, 1), 6);
        checks.due("new: BLEND and colour MASK", pipe.pixel(0, 0), Scenes.colour(10, 20, 30));
        pipe.set(0, 0);
        pipe.draw(0, 0, 1);
        checks.due("new: operation 1", pipe.at(0, 0, 1), 6);
        pipe.set(2, 0);
        pipe.draw(0, 0, 1);
        checks.due("new: operation 0", pipe.at(0, 0, 1), 6);
        pipe.set(4, 2);
        pipe.draw(0, 0, 1);
        checks.due("new: REF", pipe.at(0, 0, 1), 0);
        cullWrapAndFlat();
    }

    private static void cullWrapAndFlat() {
        PixelPipe pipe = new PixelPipe();
        Scenes.eighths(pipe, 0, 0, 0);
        checks.due("new: CULL of what is FRONT", pipe.draw(1, 0, 3), 36);
        pipe.paint(2, 80, 80, 80, 80);
        pipe.draw(1, 0, 3);
        checks.due("new: FLAT", pipe.pixel(0, 1), Scenes.colour(10, 10, 10));
        pipe.vertex(1, 4, 68, 0, 1);
        pipe.vertex(2, 68, 4, 0, 1);
        checks.due("new: CULL of what is not FRONT", pipe.draw(1, 0, 3), 36);
        pipe.texel(1, 0, 77);
        pipe.coords(3, 72, 0);
        pipe.step(7, 0, 4, 5);
        pipe.draw(0, 3, 1);
        checks.due("new: WRAP", pipe.pixel(0, 0), 77);
    }

    private static void objectsAreApart() {
        PixelPipe one = new PixelPipe();
        PixelPipe other = new PixelPipe();
        one.clear(0, 1);
        one.clear(1, 1);
        one.clear(2, 1);
        one.step(0, 0, 0, 0);
        one.set(12, 0);
        checks.due("other object: pixel", other.pixel(0, 0), 0);
        checks.due("other object: depth", other.at(0, 0, 0), 1023);
        checks.due("other object: stencil", other.at(0, 0, 1), 0);
        checks.due("other object: keep(1)", other.keep(1), false);
        checks.due("other object: error()", other.error(), 2);
        checks.due("the object: error()", one.error(), 1);
    }
}
