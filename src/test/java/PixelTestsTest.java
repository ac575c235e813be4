/** Promises 6 and 11: the stencil test, the depth test, operations and masks. */
public final class PixelTestsTest {
    private static final Checks checks = new Checks();

    public static void main(String[] args) {
        compares();
        depthsComparedAtTheEnds();
        stencilsComparedAtTheEnds();
        operations();
        operationTwoIsRef();
        operationsStopAtTheEnds();
        operationAfterTheComparison();
        stencilComesFirst();
        whatIsStoppedChangesNothingElse();
        depthMask();
        colourMask();
        blends();
        blendEdges();
        blendByAlphaAtTheEnds();
        blendSumAtTheEnds();
        blendProductAtTheEnds();
        blendDifferenceAtTheEnds();
        maskOfNoChannelPasses();
        checks.end();
    }

    private static boolean isSo(int how, int left, int right) {
        boolean[] so = {false, left < right, left == right, left <= right,
            left > right, left != right, left >= right, true};
        return so[how];
    }

    private static void compares() {
        for (int how = 0; how < 8; how++) {
            for (int v = 6; v <= 8; v++) {
                PixelPipe pipe = new PixelPipe();
                pipe.clear(1, 7);
                pipe.clear(2, 7);
                pipe.vertex(0, 0, 0, v, 1);
                pipe.set(0, how);
                boolean so = isSo(how, v, 7);
                checks.due("depth " + v + " compared by " + how, pipe.draw(0, 0, 1), so ? 1 : 0);
                checks.due("stopped by the depth test", pipe.count(3), so ? 0 : 1);
                checks.due("stopped by the stencil test", pipe.count(2), 0);
                pipe.set(0, 7);
                pipe.set(2, how);
                pipe.set(3, v);
                checks.due("REF " + v + " compared by " + how, pipe.draw(0, 0, 1), so ? 1 : 0);
                checks.due("stopped by the depth test", pipe.count(3), 0);
                checks.due("stopped by the stencil test", pipe.count(2), so ? 0 : 1);
            }
        }
    }

    private static void depthsComparedAtTheEnds() {
        for (int how = 0; how < 8; how++) {
            PixelPipe pipe = new PixelPipe();
            pipe.set(0, how);
            for (int z : new int[] {0, 1, 1022, 1023}) {
                for (int depth : new int[] {0, 1, 1022, 1023}) {
                    pipe.clear(1, depth);
                    pipe.vertex(0, 0, 0, z, 1);
                    boolean so = isSo(how, z, depth);
                    String told = "depth " + z + " compared with " + depth + " by " + how;
                    checks.due(told, pipe.draw(0, 0, 1), so ? 1 : 0);
                    checks.due(told + ": the depth then", pipe.at(0, 0, 0), so ? z : depth);
                }
            }
        }
    }

    private static void stencilsComparedAtTheEnds() {
        for (int how = 0; how < 8; how++) {
            PixelPipe pipe = new PixelPipe();
            pipe.set(2, how);
            for (int ref : new int[] {0, 1, 14, 15}) {
                for (int stencil : new int[] {0, 1, 14, 15}) {
                    pipe.clear(2, stencil);
                    pipe.set(3, ref);
                    checks.due("REF " + ref + " compared with " + stencil + " by " + how,
                            pipe.draw(0, 0, 1), isSo(how, ref, stencil) ? 1 : 0);
                }
            }
        }
    }

    private static int operated(int operation, int old, int ref) {
        int[] want = {old, 0, ref, Math.min(15, old + 1), Math.max(0, old - 1), 15 - old};
        return want[operation];
    }

    /** Operations 0, 1 and 2 at the stencils 0..15, while the two others would do something else. */
    private static void operations() {
        for (int operation = 0; operation < 6; operation++) {
            for (int old = 0; old < 16; old++) {
                PixelPipe pipe = new PixelPipe();
                pipe.set(3, 9);
                for (int which = 0; which < 3; which++) {
                    pipe.clear(2, old);
                    for (int setting = 4; setting <= 6; setting++) {
                        pipe.set(setting, setting == 4 + which ? operation : (operation + 1) % 6);
                    }
                    pipe.set(2, which == 0 ? 0 : 7);
                    pipe.set(0, which == 1 ? 0 : 7);
                    pipe.draw(0, 0, 1);
                    checks.due("stencil " + old + " by operation " + which + " as " + operation,
                            pipe.at(0, 0, 1), operated(operation, old, 9));
                    checks.due("stencil of another pixel", pipe.at(1, 0, 1), old);
                }
            }
        }
    }

    private static void operationTwoIsRef() {
        PixelPipe pipe = new PixelPipe();
        pipe.set(6, 2);
        for (int ref = 0; ref < 16; ref++) {
            pipe.clear(2, 15 - ref);
            pipe.set(3, ref);
            pipe.draw(0, 0, 1);
            checks.due("stencil by operation as 2 with REF " + ref, pipe.at(0, 0, 1), ref);
        }
    }

    private static void operationsStopAtTheEnds() {
        PixelPipe pipe = new PixelPipe();
        pipe.clear(2, 13);
        pipe.set(6, 3);
        for (int want : new int[] {14, 15, 15, 15}) {
            pipe.draw(0, 0, 1);
            checks.due("one more, at most 15", pipe.at(0, 0, 1), want);
        }
        pipe.clear(2, 2);
        pipe.set(6, 4);
        for (int want : new int[] {1, 0, 0, 0}) {
            pipe.draw(0, 0, 1);
            checks.due("one less, at least 0", pipe.at(0, 0, 1), want);
        }
        pipe.set(6, 5);
        for (int want : new int[] {15, 0, 15}) {
            pipe.draw(0, 0, 1);
            checks.due("15 less itself", pipe.at(0, 0, 1), want);
        }
    }

    /** Two points at one place: what the first one did to stencil and depth counts for the second. */
    private static void operationAfterTheComparison() {
        PixelPipe pipe = new PixelPipe();
        pipe.set(2, 2);
        pipe.set(6, 3);
        checks.due("the second is stopped by the stencil", pipe.draw(0, 0, 2), 1);
        checks.due("its stencil", pipe.at(0, 0, 1), 1);
        checks.due("stopped", pipe.count(2), 1);
        PixelPipe other = new PixelPipe();
        other.set(0, 1);
        other.set(5, 3);
        checks.due("the second is stopped by the depth", other.draw(0, 0, 2), 1);
        checks.due("its stencil", other.at(0, 0, 1), 1);
        checks.due("stopped", other.count(3), 1);
    }

    private static void stencilComesFirst() {
        PixelPipe pipe = new PixelPipe();
        pipe.set(0, 0);
        pipe.set(2, 0);
        checks.due("stopped by both", pipe.draw(0, 0, 1), 0);
        checks.due("count(2)", pipe.count(2), 1);
        checks.due("count(3)", pipe.count(3), 0);
    }

    private static void whatIsStoppedChangesNothingElse() {
        for (int setting = 0; setting <= 2; setting += 2) {
            PixelPipe pipe = new PixelPipe();
            pipe.clear(0, 0x010203);
            pipe.clear(1, 500);
            pipe.paint(0, 9, 9, 9, 9);
            pipe.set(setting, 0);
            pipe.draw(0, 0, 1);
            checks.due("pixel that was stopped by " + setting, pipe.pixel(0, 0), 0x010203);
            checks.due("depth that was stopped by " + setting, pipe.at(0, 0, 0), 500);
            checks.due("stencil that was stopped by " + setting, pipe.at(0, 0, 1), 0);
        }
    }

    private static void depthMask() {
        PixelPipe pipe = new PixelPipe();
        pipe.vertex(0, 0, 0, 40, 1);
        pipe.paint(0, 1, 2, 3, 4);
        pipe.set(1, 0);
        pipe.set(0, 1);
        checks.due("depth test with MASK 0", pipe.draw(0, 0, 1), 1);
        checks.due("depth with MASK 0", pipe.at(0, 0, 0), 1023);
        checks.due("pixel with depth MASK 0", pipe.pixel(0, 0), Scenes.colour(1, 2, 3));
        pipe.set(1, 1);
        checks.due("depth test with MASK 1", pipe.draw(0, 0, 1), 1);
        checks.due("depth with MASK 1", pipe.at(0, 0, 0), 40);
        checks.due("the same depth is not below", pipe.draw(0, 0, 1), 0);
    }

    private static void colourMask() {
        int[] want = {0x112233, 0xAA2233, 0x11BB33, 0xAABB33, 0x1122CC, 0xAA22CC, 0x11BBCC, 0xAABBCC};
        for (int mask = 0; mask < 8; mask++) {
            PixelPipe pipe = new PixelPipe();
            pipe.clear(0, 0x112233);
            pipe.paint(0, 0xAA, 0xBB, 0xCC, 255);
            pipe.vertex(0, 0, 0, 3, 1);
            pipe.set(8, mask);
            pipe.set(6, 3);
            checks.due("draw with colour MASK " + mask, pipe.draw(0, 0, 1), 1);
            checks.due("its pixel", pipe.pixel(0, 0), want[mask]);
            checks.due("its depth", pipe.at(0, 0, 0), 3);
            checks.due("its stencil", pipe.at(0, 0, 1), 1);
        }
    }

    private static int blended(int blend, int fresh, int old, int alpha) {
        int[] want = {fresh, (fresh * alpha + old * (255 - alpha)) / 255, Math.min(255, fresh + old),
            fresh * old / 255, Math.max(0, old - fresh)};
        return want[blend];
    }

    private static void blends() {
        int[] some = {0, 1, 2, 100, 127, 128, 254, 255};
        for (int blend = 0; blend < 5; blend++) {
            for (int fresh : some) {
                for (int old : some) {
                    PixelPipe pipe = new PixelPipe();
                    pipe.set(7, blend);
                    for (int alpha : some) {
                        pipe.clear(0, Scenes.colour(old, 7, 250));
                        pipe.paint(0, fresh, 90, 201, alpha);
                        pipe.draw(0, 0, 1);
                        int want = Scenes.colour(blended(blend, fresh, old, alpha),
                                blended(blend, 90, 7, alpha), blended(blend, 201, 250, alpha));
                        checks.due("BLEND " + blend + " of " + fresh + " on " + old + ", alpha " + alpha,
                                pipe.pixel(0, 0), want);
                    }
                }
            }
        }
    }

    private static void blendEdges() {
        PixelPipe pipe = new PixelPipe();
        pipe.clear(0, Scenes.colour(200, 100, 50));
        pipe.paint(0, 100, 200, 7, 51);
        pipe.set(7, 1);
        pipe.draw(0, 0, 1);
        checks.due("a fifth of the new one", pipe.pixel(0, 0), Scenes.colour(180, 120, 41));
        pipe.set(7, 2);
        pipe.draw(0, 0, 1);
        checks.due("the sum", pipe.pixel(0, 0), Scenes.colour(255, 255, 48));
        pipe.set(7, 3);
        pipe.draw(0, 0, 1);
        checks.due("the product", pipe.pixel(0, 0), Scenes.colour(100, 200, 1));
        pipe.set(7, 4);
        pipe.paint(0, 99, 201, 1, 0);
        pipe.draw(0, 0, 1);
        checks.due("the difference", pipe.pixel(0, 0), Scenes.colour(1, 0, 0));
    }

    /** One channel after a point of colour fresh and alpha was drawn on the channel old. */
    private static int drawnOn(int blend, int fresh, int old, int alpha) {
        PixelPipe pipe = new PixelPipe();
        pipe.clear(0, Scenes.colour(old, old, old));
        pipe.set(7, blend);
        pipe.paint(0, fresh, fresh, fresh, alpha);
        pipe.draw(0, 0, 1);
        int got = pipe.pixel(0, 0);
        checks.due("all three channels alike", got, Scenes.colour(got & 255, got & 255, got & 255));
        return got & 255;
    }

    private static void blendByAlphaAtTheEnds() {
        checks.due("alpha 0 leaves the old one", drawnOn(1, 255, 3, 0), 3);
        checks.due("alpha 255 takes the new one", drawnOn(1, 3, 255, 255), 3);
        checks.due("alpha 1 of 255 on 0", drawnOn(1, 255, 0, 1), 1);
        checks.due("alpha 1 of 254 on 0", drawnOn(1, 254, 0, 1), 0);
        checks.due("alpha 254 of 0 on 255", drawnOn(1, 0, 255, 254), 1);
        checks.due("alpha 254 of 0 on 254", drawnOn(1, 0, 254, 254), 0);
        checks.due("255 on 255", drawnOn(1, 255, 255, 128), 255);
        checks.due("0 on 0", drawnOn(1, 0, 0, 128), 0);
    }

    private static void blendSumAtTheEnds() {
        checks.due("254 + 0", drawnOn(2, 254, 0, 9), 254);
        checks.due("254 + 1", drawnOn(2, 254, 1, 9), 255);
        checks.due("255 + 1", drawnOn(2, 255, 1, 9), 255);
        checks.due("128 + 128", drawnOn(2, 128, 128, 9), 255);
        checks.due("255 + 255", drawnOn(2, 255, 255, 9), 255);
        checks.due("0 + 0", drawnOn(2, 0, 0, 9), 0);
    }

    private static void blendProductAtTheEnds() {
        checks.due("255 * 255", drawnOn(3, 255, 255, 9), 255);
        checks.due("255 * 1", drawnOn(3, 255, 1, 9), 1);
        checks.due("254 * 1", drawnOn(3, 254, 1, 9), 0);
        checks.due("0 * 255", drawnOn(3, 0, 255, 9), 0);
        checks.due("254 * 254", drawnOn(3, 254, 254, 9), 253);
    }

    private static void blendDifferenceAtTheEnds() {
        checks.due("100 - 99", drawnOn(4, 99, 100, 9), 1);
        checks.due("100 - 100", drawnOn(4, 100, 100, 9), 0);
        checks.due("100 - 101", drawnOn(4, 101, 100, 9), 0);
        checks.due("0 - 255", drawnOn(4, 255, 0, 9), 0);
        checks.due("255 - 0", drawnOn(4, 0, 255, 9), 255);
    }

    /** Masks hide what is written, not that the pixel passed. */
    private static void maskOfNoChannelPasses() {
        PixelPipe pipe = new PixelPipe();
        pipe.set(8, 0);
        pipe.set(1, 0);
        pipe.paint(0, 1, 2, 3, 4);
        checks.due("passed with both MASKs 0", pipe.draw(0, 0, 1), 1);
        checks.due("its pixel", pipe.pixel(0, 0), 0);
        checks.due("its depth", pipe.at(0, 0, 0), 1023);
    }
}
