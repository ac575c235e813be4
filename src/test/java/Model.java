import java.util.ArrayList;
import java.util.List;

/**
 * The document once more: written from its words alone, apart from the program and free of LANGUAGE.md,
 * so that a slip in one of the two shows as a difference.
 */
final class Model {
    private static final int[] GREATEST_OF_SETTING = {7, 1, 7, 15, 5, 5, 5, 4, 7, 2, 2, 1};
    private static final int[] GREATEST_TO_CLEAR = {16777215, 1023, 15};

    private record Vertex(int x, int y, int z, int q, int[] values) {
    }

    private record Step(int op, int d, int a, int b) {
    }

    private static final class Pixel {
        final int[] channels = new int[3];
        int depth = 1023;
        int stencil = 0;
    }

    private final Pixel[][] screen = new Pixel[24][16];
    private final Vertex[] vertices = new Vertex[24];
    private final int[][] texture = new int[8][8];
    private final int[] settings = {7, 1, 7, 0, 0, 0, 0, 0, 7, 0, 0, 0};
    private int[] scissor = {0, 0, 24, 16};
    private List<Step> program = new ArrayList<>();
    private int[] counts = new int[6];
    private int kept = 0;

    Model() {
        for (Pixel[] column : screen) {
            for (int y = 0; y < 16; y++) {
                column[y] = new Pixel();
            }
        }
        for (int i = 0; i < 24; i++) {
            vertices[i] = new Vertex(0, 0, 0, 1, new int[6]);
        }
    }

    /** What the call answers; a boolean counts 1 or 0. */
    int answer(String name, int... n) {
        int error = errorOf(name, n);
        if (error != 0) {
            kept = kept == 0 ? error : kept;
            return name.equals("step") || name.equals("draw") ? -1 : 0;
        }
        switch (name) {
            case "step":
                program.add(new Step(n[0], n[1], n[2], n[3]));
                return program.size();
            case "draw":
                counts = new int[6];
                draw(n[0], n[1], n[2]);
                return counts[4];
            case "pixel":
                return onScreen(n[0], n[1]) ? colourOf(screen[n[0]][n[1]].channels) : -1;
            case "at":
                return onScreen(n[0], n[1]) ? at(screen[n[0]][n[1]], n[2]) : -1;
            case "error":
                int answer = kept;
                kept = 0;
                return answer;
            case "count":
                return in(n[0], 0, 5) ? counts[n[0]] : 0;
            default:
                change(name, n);
                return 1;
        }
    }

    private int errorOf(String name, int[] n) {
        switch (name) {
            case "vertex":
                return valueUnless(in(n[0], 0, 23) && in(n[1], -800, 800) && in(n[2], -800, 800)
                        && in(n[3], 0, 1023) && in(n[4], 1, 64));
            case "paint":
                return valueUnless(in(n[0], 0, 23) && in(n[1], 0, 255) && in(n[2], 0, 255)
                        && in(n[3], 0, 255) && in(n[4], 0, 255));
            case "coords":
                return valueUnless(in(n[0], 0, 23) && in(n[1], -1000, 1000) && in(n[2], -1000, 1000));
            case "texel":
                return valueUnless(in(n[0], 0, 7) && in(n[1], 0, 7) && in(n[2], 0, 16777215));
            case "set":
                return in(n[0], 0, 11) ? valueUnless(in(n[1], 0, GREATEST_OF_SETTING[n[0]])) : PixelPipe.ENUM;
            case "scissor":
                return valueUnless(n[0] >= 0 && n[1] >= 0 && n[2] >= 0 && n[3] >= 0
                        && (long) n[0] + n[2] <= 24 && (long) n[1] + n[3] <= 16);
            case "clear":
                return in(n[0], 0, 2) ? valueUnless(in(n[1], 0, GREATEST_TO_CLEAR[n[0]])) : PixelPipe.ENUM;
            case "step":
                return stepError(n);
            case "keep":
                return valueUnless(in(n[0], 0, program.size()));
            case "draw":
                return in(n[0], 0, 3) ? valueUnless(in(n[2], 0, 24) && in(n[1], 0, 24 - n[2])) : PixelPipe.ENUM;
            default:
                return 0;
        }
    }

    private int stepError(int[] n) {
        if (!in(n[0], 0, 9)) {
            return PixelPipe.ENUM;
        }
        // Which of d, a and b each op has as a register.
        String used = new String[] {"da", "dab", "dab", "dab", "dab", "dab", "dab", "dab", "d", "a"}[n[0]];
        for (int place = 1; place <= 3; place++) {
            if (used.indexOf("dab".charAt(place - 1)) >= 0 && !in(n[place], 0, 7)) {
                return PixelPipe.VALUE;
            }
        }
        return program.size() == 10 ? PixelPipe.ROOM : 0;
    }

    private static int valueUnless(boolean good) {
        return good ? 0 : PixelPipe.VALUE;
    }

    private static boolean in(int v, int least, int greatest) {
        return least <= v && v <= greatest;
    }

    private static boolean onScreen(int x, int y) {
        return in(x, 0, 23) && in(y, 0, 15);
    }

    private static int at(Pixel pixel, int what) {
        return what == 0 ? pixel.depth : what == 1 ? pixel.stencil : -1;
    }

    private static int colourOf(int[] channels) {
        return channels[0] * 65536 + channels[1] * 256 + channels[2];
    }

    private static int[] channelsOf(int colour) {
        return new int[] {colour / 65536, colour / 256 % 256, colour % 256};
    }

    private void change(String name, int[] n) {
        switch (name) {
            case "vertex" -> vertices[n[0]] = new Vertex(n[1], n[2], n[3], n[4], vertices[n[0]].values);
            case "paint" -> System.arraycopy(n, 1, vertices[n[0]].values, 0, 4);
            case "coords" -> System.arraycopy(n, 1, vertices[n[0]].values, 4, 2);
            case "texel" -> texture[n[0]][n[1]] = n[2];
            case "set" -> settings[n[0]] = n[1];
            case "scissor" -> scissor = n.clone();
            case "clear" -> clear(n[0], n[1]);
            case "keep" -> program = new ArrayList<>(program.subList(0, n[0]));
            default -> throw new IllegalArgumentException(name);
        }
    }

    private boolean inScissor(int x, int y) {
        return in(x, scissor[0], scissor[0] + scissor[2] - 1) && in(y, scissor[1], scissor[1] + scissor[3] - 1);
    }

    private void clear(int what, int v) {
        for (int x = 0; x < 24; x++) {
            for (int y = 0; y < 16; y++) {
                Pixel pixel = screen[x][y];
                if (!inScissor(x, y)) {
                    continue;
                }
                if (what == 0) {
                    masked(pixel, channelsOf(v));
                } else if (what == 2) {
                    pixel.stencil = v;
                } else if (settings[1] == 1) {
                    pixel.depth = v;
                }
            }
        }
    }

    private void masked(Pixel pixel, int[] channels) {
        int[] bits = {1, 2, 4};
        for (int n = 0; n < 3; n++) {
            if (settings[8] / bits[n] % 2 == 1) {
                pixel.channels[n] = channels[n];
            }
        }
    }

    private void draw(int mode, int first, int count) {
        int end = first + count;
        if (mode == 0) {
            for (int k = first; k < end; k++) {
                point(vertices[k]);
            }
        } else if (mode == 1) {
            for (int k = first; k + 3 <= end; k += 3) {
                triangle(vertices[k], vertices[k + 1], vertices[k + 2]);
            }
        } else if (mode == 2) {
            for (int k = first; k + 3 <= end; k++) {
                int odd = (k - first) % 2;
                triangle(vertices[k + odd], vertices[k + 1 - odd], vertices[k + 2]);
            }
        } else {
            for (int k = first + 1; k + 2 <= end; k++) {
                triangle(vertices[first], vertices[k], vertices[k + 1]);
            }
        }
    }

    private void point(Vertex v) {
        counts[5]++;
        int x = Math.floorDiv(v.x, 8);
        int y = Math.floorDiv(v.y, 8);
        if (inScissor(x, y)) {
            covered(x, y, v.z, v.values);
        }
    }

    private static long cross(Vertex a, Vertex b, long x, long y) {
        return (b.x - a.x) * (y - a.y) - (b.y - a.y) * (x - a.x);
    }

    private void triangle(Vertex a, Vertex b, Vertex c) {
        long cross = cross(a, b, c.x, c.y);
        boolean culled = settings[9] == 1 && cross < 0 || settings[9] == 2 && cross > 0;
        if (cross == 0 || culled) {
            return;
        }
        counts[5]++;
        Vertex[] corners = cross > 0 ? new Vertex[] {a, b, c} : new Vertex[] {a, c, b};
        for (int y = 0; y < 16; y++) {
            for (int x = 0; x < 24; x++) {
                long[] weights = new long[3];
                if (inScissor(x, y) && weigh(corners, 8 * x + 4, 8 * y + 4, weights)) {
                    inTriangle(x, y, corners, weights, c);
                }
            }
        }
    }

    /** Whether the triangle covers a pixel with this middle. */
    private static boolean weigh(Vertex[] corners, int x, int y, long[] weights) {
        boolean all = true;
        for (int n = 0; n < 3; n++) {
            Vertex from = corners[(n + 1) % 3];
            Vertex to = corners[(n + 2) % 3];
            weights[n] = cross(from, to, x, y);
            boolean upwards = to.y < from.y;
            boolean right = to.y == from.y && to.x > from.x;
            all &= weights[n] > 0 || weights[n] == 0 && (upwards || right);
        }
        return all;
    }

    private void inTriangle(int x, int y, Vertex[] corners, long[] weights, Vertex last) {
        long z = 0;
        long whole = 0;
        long wholeWithQ = 0;
        long[] sums = new long[6];
        for (int n = 0; n < 3; n++) {
            z += weights[n] * corners[n].z;
            whole += weights[n];
            wholeWithQ += weights[n] * corners[n].q;
            for (int v = 0; v < 6; v++) {
                sums[v] += weights[n] * corners[n].q * corners[n].values[v];
            }
        }
        int[] values = new int[6];
        for (int v = 0; v < 6; v++) {
            boolean flat = settings[11] == 1 && v < 4;
            values[v] = flat ? last.values[v] : (int) Math.floorDiv(sums[v], wholeWithQ);
        }
        covered(x, y, (int) Math.floorDiv(z, whole), values);
    }

    private void covered(int x, int y, int z, int[] values) {
        counts[0]++;
        int[] r = {values[0], values[1], values[2], values[3], values[4], values[5], x, z};
        for (Step step : program) {
            if (step.op == 9 && r[step.a] < 0) {
                counts[1]++;
                return;
            }
            stepOn(r, step);
        }
        for (int n = 0; n < 4; n++) {
            r[n] = Math.min(255, Math.max(0, r[n]));
        }
        tested(screen[x][y], z, r);
    }

    private void stepOn(int[] r, Step step) {
        int d = step.d;
        int a = step.a;
        int b = step.b;
        switch (step.op) {
            case 0 -> r[d] = r[a];
            case 1 -> r[d] = r[a] + r[b];
            case 2 -> r[d] = r[a] - r[b];
            case 3 -> r[d] = Math.floorDiv(r[a] * r[b], 256);
            case 4 -> r[d] = Math.min(r[a], r[b]);
            case 5 -> r[d] = Math.max(r[a], r[b]);
            case 6 -> r[d] = r[d] < 0 ? r[a] : r[b];
            case 7 -> {
                int[] channels = channelsOf(texture[wrapped(r[a])][wrapped(r[b])]);
                for (int n = 0; n < 3; n++) {
                    r[(d + n) % 8] = channels[n];
                }
            }
            case 8 -> r[d] = a;
            default -> { }
        }
    }

    private int wrapped(int place) {
        int texel = Math.floorDiv(place, 8);
        if (settings[10] == 0) {
            return Math.floorMod(texel, 8);
        }
        if (settings[10] == 1) {
            return Math.min(7, Math.max(0, texel));
        }
        int mirrored = Math.floorMod(texel, 16);
        return mirrored > 7 ? 15 - mirrored : mirrored;
    }

    private void tested(Pixel pixel, int z, int[] fresh) {
        if (!compared(settings[2], settings[3], pixel.stencil)) {
            counts[2]++;
            operate(pixel, settings[4]);
            return;
        }
        if (!compared(settings[0], z, pixel.depth)) {
            counts[3]++;
            operate(pixel, settings[5]);
            return;
        }
        counts[4]++;
        operate(pixel, settings[6]);
        pixel.depth = settings[1] == 1 ? z : pixel.depth;
        int[] channels = new int[3];
        for (int n = 0; n < 3; n++) {
            channels[n] = blended(fresh[n], pixel.channels[n], fresh[3]);
        }
        masked(pixel, channels);
    }

    /** The eight ways are the sums of below (1), the same (2) and above (4). */
    private static boolean compared(int how, int left, int right) {
        int way = left < right ? 1 : left == right ? 2 : 4;
        return (how & way) != 0;
    }

    private void operate(Pixel pixel, int operation) {
        int old = pixel.stencil;
        pixel.stencil = new int[] {old, 0, settings[3], Math.min(15, old + 1), Math.max(0, old - 1), 15 - old}[operation];
    }

    private int blended(int fresh, int old, int alpha) {
        return switch (settings[7]) {
            case 0 -> fresh;
            case 1 -> (fresh * alpha + old * (255 - alpha)) / 255;
            case 2 -> Math.min(255, fresh + old);
            case 3 -> fresh * old / 255;
            default -> Math.max(0, old - fresh);
        };
    }
}
