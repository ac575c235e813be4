/** Promises 9 and 16: what the steps of the program do. */
public final class ProgramTest {
    private static final int LEAST = Integer.MIN_VALUE;
    private static final int MOST = Integer.MAX_VALUE;
    private static final Checks checks = new Checks();

    public static void main(String[] args) {
        arithmetic();
        productsWrapBeforeTheShift();
        productsKeepTheirSign();
        sumsWrap();
        lesserAndGreaterOfFarInts();
        intsOfAStep();
        choose();
        channels();
        texelWraps();
        texelRegisters();
        kill();
        order();
        ends();
        registersBeginAnew();
        registersOfTriangles();
        registersAtTheEnds();
        killAtTheFirstAndTheLastStep();
        depthIsNotTheRegister();
        stencilAndDepthOfAKilledPixelStay();
        checks.end();
    }

    /** Register 2 by one op on registers 0 and 1, with what was in 2 before. */
    private static void computes(int op, int a, int b, int before, int want) {
        PixelPipe pipe = new PixelPipe();
        pipe.step(8, 0, a, 0);
        pipe.step(8, 1, b, 0);
        pipe.step(8, 2, before, 0);
        pipe.step(op, 2, 0, 1);
        String call = "op " + op + " of " + a + ", " + b + ", before it " + before + ", is " + want;
        checks.due(call, Scenes.registerIs(pipe, 4, 2, want), true);
        checks.due(call + ", not one more", Scenes.registerIs(pipe, 4, 2, want + 1), false);
        checks.due(call + ", and a stays", Scenes.registerIs(pipe, 4, 0, a), true);
    }

    private static void arithmetic() {
        int[] some = {0, 1, -1, 255, 256, -256, 257, 1000, -1000, 65536, 46341, MOST, LEAST, MOST - 1, LEAST + 1};
        for (int a : some) {
            for (int b : some) {
                computes(0, a, b, 5, a);
                computes(1, a, b, 5, (int) ((long) a + b));
                computes(2, a, b, 5, (int) ((long) a - b));
                computes(3, a, b, 5, Math.floorDiv((int) ((long) a * b), 256));
                computes(4, a, b, 5, Math.min(a, b));
                computes(5, a, b, 5, Math.max(a, b));
            }
        }
    }

    private static void productsWrapBeforeTheShift() {
        computes(3, 65536, 65536, 0, 0);
        computes(3, 65536, 32768, 0, -8388608);
        computes(3, 65536, 32767, 0, 8388352);
        computes(3, 46340, 46340, 0, 8388264);
        computes(3, 46341, 46341, 0, -8388590);
        computes(3, LEAST, -1, 0, -8388608);
        computes(3, MOST, MOST, 0, 0);
        computes(3, MOST, 2, 0, -1);
    }

    private static void productsKeepTheirSign() {
        computes(3, -1, 1, 0, -1);
        computes(3, -1, 255, 0, -1);
        computes(3, -1, 256, 0, -1);
        computes(3, -1, 257, 0, -2);
        computes(3, 1, 255, 0, 0);
        computes(3, 1, 256, 0, 1);
        computes(3, 300, 200, 0, 234);
    }

    private static void sumsWrap() {
        computes(1, MOST, 1, 0, LEAST);
        computes(1, MOST - 1, 1, 0, MOST);
        computes(1, LEAST, -1, 0, MOST);
        computes(2, LEAST, 1, 0, MOST);
        computes(2, MOST, -1, 0, LEAST);
        computes(2, 0, LEAST, 0, LEAST);
        computes(2, 0, MOST, 0, LEAST + 1);
    }

    /** A difference that wraps must not decide which one is lesser or greater. */
    private static void lesserAndGreaterOfFarInts() {
        computes(4, LEAST, MOST, 0, LEAST);
        computes(4, MOST, LEAST, 0, LEAST);
        computes(5, LEAST, MOST, 0, MOST);
        computes(5, MOST, LEAST, 0, MOST);
        computes(4, 7, 7, 0, 7);
        computes(5, 7, 7, 0, 7);
    }

    private static void intsOfAStep() {
        for (int v : new int[] {LEAST, LEAST + 1, -1, 0, 1, 8, 255, 256, MOST - 1, MOST}) {
            PixelPipe pipe = new PixelPipe();
            pipe.step(8, 2, v, 0);
            checks.due("the int " + v, Scenes.registerIs(pipe, 1, 2, v), true);
        }
    }

    private static void choose() {
        computes(6, 10, 20, -1, 10);
        computes(6, 10, 20, LEAST, 10);
        computes(6, 10, 20, 0, 20);
        computes(6, 10, 20, 1, 20);
        computes(6, 10, 20, MOST, 20);
    }

    private static void channels() {
        PixelPipe pipe = new PixelPipe();
        pipe.texel(2, 5, Scenes.colour(200, 100, 50));
        pipe.coords(0, 16, 40);
        pipe.step(7, 0, 4, 5);
        pipe.draw(0, 0, 1);
        checks.due("texel 2, 5", pipe.pixel(0, 0), Scenes.colour(200, 100, 50));
        pipe.coords(0, 40, 16);
        pipe.draw(0, 0, 1);
        checks.due("texel 5, 2", pipe.pixel(0, 0), 0);
    }

    private static int wrapped(int wrap, int v) {
        int place = Math.floorDiv(v, 8);
        if (wrap == 0) {
            return Math.floorMod(place, 8);
        }
        if (wrap == 1) {
            return Math.max(0, Math.min(7, place));
        }
        int[] there = {0, 1, 2, 3, 4, 5, 6, 7, 7, 6, 5, 4, 3, 2, 1, 0};
        return there[Math.floorMod(place, 16)];
    }

    private static void texelWraps() {
        int[] some = {0, 7, 8, 63, 64, 71, 127, 128, -1, -8, -9, -64, -65, -128, -129, 1000, -1000, MOST, LEAST};
        for (int wrap = 0; wrap < 3; wrap++) {
            for (int v : some) {
                PixelPipe pipe = new PixelPipe();
                for (int i = 0; i < 8; i++) {
                    pipe.texel(i, 3, 10 + i);
                    pipe.texel(3, i, 20 + i);
                }
                pipe.texel(3, 3, 99);
                pipe.set(10, wrap);
                pipe.step(8, 4, v, 0);
                pipe.step(8, 5, 24, 0);
                pipe.step(7, 0, 4, 5);
                pipe.draw(0, 0, 1);
                int want = wrapped(wrap, v);
                String call = "WRAP " + wrap + " of " + v;
                checks.due(call + " as A", pipe.pixel(0, 0), want == 3 ? 99 : 10 + want);
                pipe.keep(2);
                pipe.step(7, 0, 5, 4);
                pipe.draw(0, 0, 1);
                checks.due(call + " as B", pipe.pixel(0, 0), want == 3 ? 99 : 20 + want);
            }
        }
    }

    private static void texelRegisters() {
        for (int d = 0; d < 8; d++) {
            PixelPipe pipe = new PixelPipe();
            pipe.texel(1, 0, Scenes.colour(70, 80, 90));
            pipe.coords(0, 8, 0);
            // A and B may be registers that the step itself changes.
            pipe.step(7, d, 4, 5);
            checks.due("texel to " + d, Scenes.registerIs(pipe, 1, d, 70), true);
            checks.due("texel to " + d + ", second", Scenes.registerIs(pipe, 1, (d + 1) % 8, 80), true);
            checks.due("texel to " + d + ", third", Scenes.registerIs(pipe, 1, (d + 2) % 8, 90), true);
            int before = (d + 3) % 8 == 4 ? 8 : 0;
            checks.due("texel to " + d + ", a fourth", Scenes.registerIs(pipe, 1, (d + 3) % 8, before), true);
        }
    }

    private static void kill() {
        int[] some = {0, 1, MOST, -1, LEAST};
        for (int v : some) {
            PixelPipe pipe = new PixelPipe();
            pipe.clear(0, 5);
            pipe.set(6, 3);
            pipe.set(4, 3);
            pipe.set(5, 3);
            pipe.step(8, 6, v, 0);
            pipe.step(9, 0, 6, 0);
            pipe.step(8, 6, 1, 0);
            boolean lives = v >= 0;
            checks.due("kill by " + v, pipe.draw(0, 0, 1), lives ? 1 : 0);
            checks.due("covered", pipe.count(0), 1);
            checks.due("killed", pipe.count(1), lives ? 0 : 1);
            checks.due("stopped by the stencil test", pipe.count(2), 0);
            checks.due("stopped by the depth test", pipe.count(3), 0);
            checks.due("its pixel", pipe.pixel(0, 0), lives ? 0 : 5);
            checks.due("its depth", pipe.at(0, 0, 0), lives ? 0 : 1023);
            checks.due("its stencil", pipe.at(0, 0, 1), lives ? 1 : 0);
        }
    }

    private static void order() {
        PixelPipe pipe = new PixelPipe();
        pipe.step(8, 0, 3, 0);
        pipe.step(1, 0, 0, 0);
        pipe.step(0, 1, 0, 0);
        pipe.step(1, 0, 0, 0);
        pipe.draw(0, 0, 1);
        checks.due("steps one after the other", pipe.pixel(0, 0), Scenes.colour(12, 6, 0));
    }

    private static void ends() {
        int[] some = {-1, LEAST, 0, 255, 256, MOST};
        int[] want = {0, 0, 0, 255, 255, 255};
        for (int i = 0; i < some.length; i++) {
            PixelPipe pipe = new PixelPipe();
            for (int channel = 0; channel < 3; channel++) {
                pipe.clear(0, 0x808080);
                pipe.step(8, channel, some[i], 0);
                pipe.draw(0, 0, 1);
                checks.due("channel " + channel + " by " + some[i], pipe.pixel(0, 0), want[i] << (16 - 8 * channel));
                pipe.keep(0);
            }
            // With BLEND 1 alpha alone decides between the new black and the old colour.
            pipe.set(7, 1);
            pipe.clear(0, 0x646464);
            pipe.step(8, 3, some[i], 0);
            pipe.draw(0, 0, 1);
            checks.due("alpha by " + some[i], pipe.pixel(0, 0), want[i] == 255 ? 0 : 0x646464);
        }
    }

    private static void registersBeginAnew() {
        PixelPipe pipe = new PixelPipe();
        Scenes.point(pipe, 0, 0, 0, 0);
        Scenes.point(pipe, 1, 1, 0, 0);
        pipe.paint(0, 5, 5, 5, 5);
        pipe.paint(1, 6, 6, 6, 6);
        pipe.step(1, 0, 0, 0);
        pipe.step(8, 7, 100, 0);
        pipe.draw(0, 0, 2);
        checks.due("first point", pipe.pixel(0, 0), Scenes.colour(10, 5, 5));
        checks.due("second point", pipe.pixel(1, 0), Scenes.colour(12, 6, 6));
    }

    private static void registersOfTriangles() {
        PixelPipe pipe = new PixelPipe();
        Scenes.eighths(pipe, 0, 80, 160);
        pipe.step(0, 0, 6, 0);
        pipe.step(0, 1, 7, 0);
        pipe.draw(1, 0, 3);
        checks.due("x and z of a triangle's pixel", pipe.pixel(3, 2), Scenes.colour(3, 70, 0));
        checks.due("x and z of another", pipe.pixel(0, 7), Scenes.colour(0, 140, 0));
    }

    private static void registersAtTheEnds() {
        for (int x : new int[] {0, 1, 22, 23}) {
            for (int z : new int[] {0, 1, 1022, 1023}) {
                PixelPipe pipe = new PixelPipe();
                Scenes.point(pipe, 0, x, 15, z);
                checks.due("x " + x + " in register 6", Scenes.registerIs(pipe, 0, 6, x), true);
                checks.due("z " + z + " in register 7", Scenes.registerIs(pipe, 0, 7, z), true);
            }
        }
    }

    private static void killAtTheFirstAndTheLastStep() {
        for (int at = 0; at < 10; at++) {
            PixelPipe pipe = new PixelPipe();
            pipe.coords(0, -1, 0);
            for (int n = 0; n < 10; n++) {
                pipe.step(n == at ? 9 : 0, 1, 4, 0);
            }
            checks.due("kill by step " + at + " of ten", pipe.draw(0, 0, 1), 0);
            checks.due("killed by step " + at + " of ten", pipe.count(1), 1);
            pipe.coords(0, 0, 0);
            checks.due("no kill by step " + at + " of ten", pipe.draw(0, 0, 1), 1);
        }
    }

    private static void stencilAndDepthOfAKilledPixelStay() {
        for (int setting = 4; setting <= 6; setting++) {
            PixelPipe pipe = new PixelPipe();
            pipe.clear(2, 7);
            pipe.set(setting, 1);
            pipe.set(2, setting == 4 ? 0 : 7);
            pipe.set(0, setting == 5 ? 0 : 7);
            pipe.step(8, 0, -1, 0);
            pipe.step(9, 0, 0, 0);
            pipe.draw(0, 0, 1);
            checks.due("stencil of a killed pixel", pipe.at(0, 0, 1), 7);
            checks.due("depth of a killed pixel", pipe.at(0, 0, 0), 1023);
        }
    }

    private static void depthIsNotTheRegister() {
        PixelPipe pipe = new PixelPipe();
        Scenes.point(pipe, 0, 0, 0, 50);
        pipe.clear(1, 100);
        pipe.set(0, 1);
        pipe.step(8, 7, 200, 0);
        checks.due("depth test with the pixel's z", pipe.draw(0, 0, 1), 1);
        checks.due("the depth is the pixel's z", pipe.at(0, 0, 0), 50);
        pipe.keep(0);
        pipe.step(8, 7, 0, 0);
        checks.due("depth test once more", pipe.draw(0, 0, 1), 0);
    }
}
