import java.util.ArrayList;
import java.util.HashMap;
import java.util.List;
import java.util.Map;

/**
 * Errors: what makes one changes nothing else. Each refused call is made in the midst of a run, and all that can be
 * seen of the object afterwards must be as in the same run without that call.
 */
public final class RefusedCallsTest {
    /** Which parts of the object are looked at: all at once would be more than the 512 calls of an object. */
    private static final int QUARTERS = 4;
    private static final int SCREEN = 0;
    private static final int DRAWN_OVER = SCREEN + QUARTERS;
    private static final int CLEARED = DRAWN_OVER + QUARTERS;
    private static final int VERTEX_COLOURS = CLEARED + QUARTERS;
    private static final int VERTEX_COORDS = VERTEX_COLOURS + 1;
    private static final int NEARNESS = VERTEX_COORDS + 1;
    private static final int TEXELS = NEARNESS + 1;
    private static final int PROGRAM = TEXELS + 1;
    private static final int VIEWS = PROGRAM + 1;

    private static final int[] FIRST_SETTINGS = {7, 1, 7, 0, 0, 0, 0, 0, 7, 0, 0, 0};
    private static final int[][] SETTINGS = {
        {1, 1, 5, 3, 3, 1, 3, 1, 5, 0, 2, 0}, {4, 0, 6, 9, 5, 4, 2, 2, 3, 1, 1, 1}, {3, 1, 3, 4, 2, 5, 4, 4, 6, 2, 0, 0}};
    private static final int[][] SCISSORS = {{2, 1, 19, 13}, {0, 3, 24, 10}, {5, 0, 19, 16}};
    // Each of the ten shows in what is drawn, so that one that was overwritten would be seen.
    private static final int[][] STEPS = {
        {7, 4, 4, 5}, {1, 0, 0, 4}, {1, 1, 1, 5}, {2, 1, 1, 6}, {8, 4, -300, 99}, {1, 5, 7, 4}, {9, 99, 5, -99},
        {3, 1, 1, 7}, {4, 0, 0, 2}, {2, 2, 0, 1}};

    private static final Checks checks = new Checks();
    private static final Map<String, List<Integer>> withoutCall = new HashMap<>();

    public static void main(String[] args) {
        oneFault();
        for (Call call : severalFaults()) {
            changesNothing(Ranges.SOME_STEPS, call, PixelPipe.VALUE);
        }
        stepsWithoutRoom();
        checks.end();
    }

    private static void oneFault() {
        for (Ranges.Range range : Ranges.all()) {
            for (int v : range.outside()) {
                changesNothing(range.steps(), range.call().with(range.place(), v), range.kind());
            }
        }
    }

    private static void stepsWithoutRoom() {
        changesNothing(Ranges.MOST_STEPS, new Call("step", 10, 1, 2, 3), PixelPipe.ENUM);
        for (int op = 0; op < 10; op++) {
            Call step = new Call("step", op, 1, 2, 3);
            changesNothing(Ranges.MOST_STEPS, step, PixelPipe.ROOM);
            for (int place = 1; place <= 3; place++) {
                if (Ranges.isRegister(op, place)) {
                    changesNothing(Ranges.MOST_STEPS, step.with(place, 8), PixelPipe.VALUE);
                }
            }
        }
    }

    /** Some numbers are good and would show if they were taken; more than one is not. */
    private static Call[] severalFaults() {
        return new Call[] {
            new Call("vertex", 5, 10, 20, 1024, 65), new Call("vertex", 24, 801, 20, 30, 7),
            new Call("paint", 6, 11, 12, 256, -1), new Call("coords", 7, 1001, -1001), new Call("texel", 3, 8, -1),
            new Call("scissor", 3, 4, 22, 13), new Call("step", 1, 2, 8, -1), new Call("draw", 0, -1, 25)};
    }

    private static void changesNothing(int steps, Call call, int kind) {
        for (int scene = 0; scene < SETTINGS.length; scene++) {
            for (int view = 0; view < VIEWS; view++) {
                PixelPipe pipe = busy(scene, steps);
                checks.due(call.toString(), call.on(pipe), call.refusal());
                checks.due(call + ", then error()", pipe.error(), kind);
                same(call, scene, view, seen(pipe, view, steps), without(scene, view, steps));
            }
        }
    }

    private static void same(Call call, int scene, int view, List<Integer> got, List<Integer> want) {
        for (int n = 0; n < want.size(); n++) {
            checks.due("scene " + scene + " after " + call + ": view " + view + ", answer " + n, got.get(n), want.get(n));
        }
    }

    private static List<Integer> without(int scene, int view, int steps) {
        return withoutCall.computeIfAbsent(scene + " " + view + " " + steps,
                key -> seen(busy(scene, steps), view, steps));
    }

    /** An object in which nothing is as it was at first. */
    private static PixelPipe busy(int scene, int steps) {
        PixelPipe pipe = new PixelPipe();
        for (int i = 0; i < 24; i++) {
            pipe.vertex(i, placeX(i), placeY(i), 40 * i + 13, 1 + (i * 29) % 64);
            pipe.paint(i, 250 - 9 * i, 40 + 8 * i, (i * 101) % 256, 90 + 5 * i);
            pipe.coords(i, 77 * i - 900, 850 - 71 * i);
        }
        for (int n = 0; n < 16; n++) {
            pipe.texel(n % 8, (n * 3) % 8, 0x101010 * (n % 8) + 0x040201 * n + 7);
        }
        pipe.clear(0, 0x446688);
        pipe.clear(1, 480);
        // Each scene's stencil test stops the pixels of one half of the screen.
        pipe.clear(2, 12);
        pipe.scissor(0, 0, 12, 16);
        pipe.clear(2, 3);
        for (int setting = 0; setting < 12; setting++) {
            pipe.set(setting, SETTINGS[scene][setting]);
        }
        int[] s = SCISSORS[scene];
        pipe.scissor(s[0], s[1], s[2], s[3]);
        for (int n = 0; n < steps; n++) {
            pipe.step(STEPS[n][0], STEPS[n][1], STEPS[n][2], STEPS[n][3]);
        }
        pipe.draw(1, 0, 24);
        return pipe;
    }

    /** Each three vertices lie in a part of the screen of their own, 6 pixels wide and 8 high. */
    private static int placeX(int i) {
        return 48 * (i / 3 % 4) + new int[] {3, 44, 20 + i}[i % 3];
    }

    private static int placeY(int i) {
        int[] turned = i / 3 % 2 == 0 ? new int[] {5, 9, 59} : new int[] {58, 52, 2};
        return 64 * (i / 12) + turned[i % 3];
    }

    private static List<Integer> seen(PixelPipe pipe, int view, int steps) {
        List<Integer> seen = new ArrayList<>();
        for (int what = 0; what < 6; what++) {
            seen.add(pipe.count(what));
        }
        if (view < DRAWN_OVER) {
            seeRows(pipe, view - SCREEN, seen);
        } else if (view < CLEARED) {
            seen.add(pipe.draw(0, 0, 24));
            seen.add(pipe.draw(2, 3, 20));
            seeRows(pipe, view - DRAWN_OVER, seen);
        } else if (view < VERTEX_COLOURS) {
            pipe.clear(0, 0x335577);
            pipe.clear(1, 77);
            pipe.clear(2, 9);
            seeRows(pipe, view - CLEARED, seen);
        } else if (view == PROGRAM) {
            seeProgram(pipe, steps, seen);
        } else {
            seeData(pipe, view, seen);
        }
        seen.add(pipe.error());
        return seen;
    }

    private static void seeRows(PixelPipe pipe, int quarter, List<Integer> seen) {
        for (int y = 4 * quarter; y < 4 * quarter + 4; y++) {
            for (int x = 0; x < Scenes.WIDTH; x++) {
                seen.add(pipe.pixel(x, y));
                seen.add(pipe.at(x, y, 0));
                seen.add(pipe.at(x, y, 1));
            }
        }
    }

    private static void seeProgram(PixelPipe pipe, int steps, List<Integer> seen) {
        seen.add(pipe.keep(steps + 1) ? 1 : 0);
        seen.add(pipe.keep(steps) ? 1 : 0);
        seen.add(pipe.step(8, 0, 9, 0));
        seen.add(pipe.error());
    }

    /** Vertices and texels, with all else as in a new object. */
    private static void seeData(PixelPipe pipe, int view, List<Integer> seen) {
        pipe.keep(0);
        pipe.scissor(0, 0, 24, 16);
        for (int setting = 0; setting < 12; setting++) {
            pipe.set(setting, FIRST_SETTINGS[setting]);
        }
        pipe.clear(0, 0);
        pipe.clear(1, 1023);
        pipe.clear(2, 0);
        if (view == VERTEX_COLOURS) {
            seePoints(pipe, seen);
        } else if (view == VERTEX_COORDS) {
            alphaAndCoordsAsColour(pipe);
            seePoints(pipe, seen);
        } else if (view == NEARNESS) {
            pipe.draw(1, 0, 24);
            seeRows(pipe, 0, seen);
        } else {
            seeTexels(pipe, seen);
        }
    }

    /** s and t of -1000 to 1000 become 3 to 253: an eighth of them, and 128. */
    private static void alphaAndCoordsAsColour(PixelPipe pipe) {
        pipe.step(0, 0, 3, 0);
        pipe.step(8, 6, 32, 0);
        pipe.step(3, 4, 4, 6);
        pipe.step(3, 5, 5, 6);
        pipe.step(8, 6, 128, 0);
        pipe.step(1, 1, 4, 6);
        pipe.step(1, 2, 5, 6);
    }

    private static void seePoints(PixelPipe pipe, List<Integer> seen) {
        for (int i = 0; i < 24; i++) {
            seen.add(pipe.draw(0, i, 1));
            seen.add(pipe.pixel(placeX(i) / 8, placeY(i) / 8));
            seen.add(pipe.at(placeX(i) / 8, placeY(i) / 8, 0));
        }
    }

    private static void seeTexels(PixelPipe pipe, List<Integer> seen) {
        pipe.vertex(0, 0, 0, 0, 1);
        pipe.step(7, 0, 4, 5);
        for (int n = 0; n < 64; n++) {
            pipe.coords(0, 8 * (n % 8), 8 * (n / 8));
            pipe.draw(0, 0, 1);
            seen.add(pipe.pixel(0, 0));
        }
    }
}
