/** A software pipe for drawing points and triangles on a screen of 24 x 16 pixels. */
public final class PixelPipe {
    public static final int ENUM = 1, VALUE = 2, ROOM = 3;

    private static final int WIDTH = 24;
    private static final int HEIGHT = 16;
    private static final int PIXELS = WIDTH * HEIGHT;
    private static final int TEXTURE_SIDE = 8;
    private static final int LAST_TEXEL = TEXTURE_SIDE - 1;
    private static final int TEXELS = TEXTURE_SIDE * TEXTURE_SIDE;
    private static final int VERTICES = 24;
    private static final int REGISTERS = 8;
    private static final int LAST_REGISTER = REGISTERS - 1;
    private static final int STEPS = 10;
    private static final int COUNTS = 6;

    private static final int GREATEST_PLACE = 800;
    private static final int GREATEST_NEARNESS = 64;
    private static final int GREATEST_COORD = 1000;
    private static final int GREATEST_CHANNEL = 255;
    private static final int GREATEST_COLOUR = 0xFFFFFF;
    private static final int GREATEST_DEPTH = 1023;
    private static final int GREATEST_STENCIL = 15;

    // A vertex has its values in the order in which the program's registers begin: r, g, b, alpha, s, t.
    private static final int VALUES = 6;
    private static final int VERTEX_VALUES = VERTICES * VALUES;
    private static final int PAINT_VALUES = 4;
    private static final int REGISTER_X = 6;
    private static final int REGISTER_Z = 7;

    private static final int DEPTH_COMPARE = 0;
    private static final int DEPTH_MASK = 1;
    private static final int STENCIL_COMPARE = 2;
    private static final int REF = 3;
    private static final int OPERATION_STENCIL_STOPS = 4;
    private static final int OPERATION_DEPTH_STOPS = 5;
    private static final int OPERATION_PASSES = 6;
    private static final int BLEND = 7;
    private static final int COLOUR_MASK = 8;
    private static final int CULL = 9;
    private static final int WRAP = 10;
    private static final int FLAT = 11;
    private static final int SETTINGS = 12;

    private static final int OP_COPY = 0;
    private static final int OP_ADD = 1;
    private static final int OP_SUBTRACT = 2;
    private static final int OP_MULTIPLY = 3;
    private static final int OP_LESSER = 4;
    private static final int OP_GREATER = 5;
    private static final int OP_CHOOSE = 6;
    private static final int OP_TEXEL = 7;
    private static final int OP_INT = 8;
    private static final int OP_KILL = 9;
    private static final int OPS = 10;

    private static final int MODE_POINTS = 0;
    private static final int MODE_TRIANGLES = 1;
    private static final int MODE_STRIP = 2;
    private static final int MODES = 4;

    private static final int CLEAR_COLOURS = 0;
    private static final int CLEAR_DEPTHS = 1;
    private static final int CLEARS = 3;

    private static final int COUNT_COVERED = 0;
    private static final int COUNT_KILLED = 1;
    private static final int COUNT_STENCIL_STOPPED = 2;
    private static final int COUNT_DEPTH_STOPPED = 3;
    private static final int COUNT_PASSED = 4;
    private static final int COUNT_DRAWN = 5;

    private final int[] colours = new int[PIXELS];
    private final int[] depths = new int[PIXELS];
    private final int[] stencils = new int[PIXELS];
    private final int[] texels = new int[TEXELS];

    private final int[] vertexX = new int[VERTICES];
    private final int[] vertexY = new int[VERTICES];
    private final int[] vertexZ = new int[VERTICES];
    private final int[] vertexQ = new int[VERTICES];
    private final int[] vertexValues = new int[VERTEX_VALUES];

    private final int[] settings = new int[SETTINGS];
    private final int[] counts = new int[COUNTS];

    private final int[] stepOps = new int[STEPS];
    private final int[] stepDs = new int[STEPS];
    private final int[] stepAs = new int[STEPS];
    private final int[] stepBs = new int[STEPS];
    private final int[] registers = new int[REGISTERS];
    private int stepCount = 0;

    private int scissorLeft = 0;
    private int scissorTop = 0;
    private int scissorRight = WIDTH;
    private int scissorBottom = HEIGHT;

    private int keptError = 0;

    // The triangle that is being drawn, as vertices in the order in which CROSS is above 0.
    private int cornerA = 0;
    private int cornerB = 0;
    private int cornerC = 0;
    // Kept beside the corners since the exchange of b and c must not change which vertex FLAT takes.
    private int flatVertex = 0;
    private int weightA = 0;
    private int weightB = 0;
    private int weightC = 0;

    public PixelPipe() {
        for (int p = 0; p < PIXELS; p++) {
            depths[p] = GREATEST_DEPTH;
        }
        for (int i = 0; i < VERTICES; i++) {
            vertexQ[i] = 1;
        }
        settings[DEPTH_COMPARE] = 7;
        settings[DEPTH_MASK] = 1;
        settings[STENCIL_COMPARE] = 7;
        settings[COLOUR_MASK] = 7;
    }

    public boolean vertex(int i, int x, int y, int z, int q) {
        if (!isVertex(i)
                || !isBetween(x, -GREATEST_PLACE, GREATEST_PLACE)
                || !isBetween(y, -GREATEST_PLACE, GREATEST_PLACE)
                || !isBetween(z, 0, GREATEST_DEPTH)
                || !isBetween(q, 1, GREATEST_NEARNESS)) {
            return refuse(VALUE);
        }
        vertexX[i] = x;
        vertexY[i] = y;
        vertexZ[i] = z;
        vertexQ[i] = q;
        return true;
    }

    public boolean paint(int i, int r, int g, int b, int alpha) {
        if (!isVertex(i)
                || !isBetween(r, 0, GREATEST_CHANNEL)
                || !isBetween(g, 0, GREATEST_CHANNEL)
                || !isBetween(b, 0, GREATEST_CHANNEL)
                || !isBetween(alpha, 0, GREATEST_CHANNEL)) {
            return refuse(VALUE);
        }
        int start = i * VALUES;
        vertexValues[start] = r;
        vertexValues[start + 1] = g;
        vertexValues[start + 2] = b;
        vertexValues[start + 3] = alpha;
        return true;
    }

    public boolean coords(int i, int s, int t) {
        if (!isVertex(i)
                || !isBetween(s, -GREATEST_COORD, GREATEST_COORD)
                || !isBetween(t, -GREATEST_COORD, GREATEST_COORD)) {
            return refuse(VALUE);
        }
        int start = i * VALUES;
        vertexValues[start + 4] = s;
        vertexValues[start + 5] = t;
        return true;
    }

    public boolean texel(int s, int t, int colour) {
        if (!isBetween(s, 0, LAST_TEXEL)
                || !isBetween(t, 0, LAST_TEXEL)
                || !isBetween(colour, 0, GREATEST_COLOUR)) {
            return refuse(VALUE);
        }
        texels[t * TEXTURE_SIDE + s] = colour;
        return true;
    }

    public boolean set(int setting, int v) {
        if (!isBetween(setting, 0, SETTINGS - 1)) {
            return refuse(ENUM);
        }
        int greatest = greatestOfSetting(setting);
        if (!isBetween(v, 0, greatest)) {
            return refuse(VALUE);
        }
        settings[setting] = v;
        return true;
    }

    public boolean scissor(int x, int y, int w, int h) {
        // The sides are compared with what is left of the screen, since x + w could wrap.
        if (!isBetween(x, 0, WIDTH)
                || !isBetween(y, 0, HEIGHT)
                || !isBetween(w, 0, WIDTH - x)
                || !isBetween(h, 0, HEIGHT - y)) {
            return refuse(VALUE);
        }
        scissorLeft = x;
        scissorTop = y;
        scissorRight = x + w;
        scissorBottom = y + h;
        return true;
    }

    public boolean clear(int what, int v) {
        if (!isBetween(what, 0, CLEARS - 1)) {
            return refuse(ENUM);
        }
        int greatest = greatestToClear(what);
        if (!isBetween(v, 0, greatest)) {
            return refuse(VALUE);
        }
        for (int y = scissorTop; y < scissorBottom; y++) {
            for (int x = scissorLeft; x < scissorRight; x++) {
                clearPixel(y * WIDTH + x, what, v);
            }
        }
        return true;
    }

    public int step(int op, int d, int a, int b) {
        if (!isBetween(op, 0, OPS - 1)) {
            keepError(ENUM);
            return -1;
        }
        if ((usesD(op) && !isRegister(d))
                || (usesA(op) && !isRegister(a))
                || (usesB(op) && !isRegister(b))) {
            keepError(VALUE);
            return -1;
        }
        if (stepCount >= STEPS) {
            keepError(ROOM);
            return -1;
        }
        stepOps[stepCount] = op;
        stepDs[stepCount] = d;
        stepAs[stepCount] = a;
        stepBs[stepCount] = b;
        stepCount++;
        return stepCount;
    }

    public boolean keep(int n) {
        if (!isBetween(n, 0, stepCount)) {
            return refuse(VALUE);
        }
        stepCount = n;
        return true;
    }

    public int draw(int mode, int first, int count) {
        if (!isBetween(mode, 0, MODES - 1)) {
            keepError(ENUM);
            return -1;
        }
        if (!isBetween(count, 0, VERTICES) || !isBetween(first, 0, VERTICES - count)) {
            keepError(VALUE);
            return -1;
        }
        for (int i = 0; i < COUNTS; i++) {
            counts[i] = 0;
        }
        if (mode == MODE_POINTS) {
            drawPoints(first, count);
        } else if (mode == MODE_TRIANGLES) {
            drawTriangles(first, count);
        } else if (mode == MODE_STRIP) {
            drawStrip(first, count);
        } else {
            drawFan(first, count);
        }
        return counts[COUNT_PASSED];
    }

    public int pixel(int x, int y) {
        return isOnScreen(x, y) ? colours[y * WIDTH + x] : -1;
    }

    public int at(int x, int y, int what) {
        if (!isOnScreen(x, y)) {
            return -1;
        }
        int p = y * WIDTH + x;
        switch (what) {
            case 0: return depths[p];
            case 1: return stencils[p];
            default: return -1;
        }
    }

    public int error() {
        int kept = keptError;
        keptError = 0;
        return kept;
    }

    public int count(int what) {
        return isBetween(what, 0, COUNTS - 1) ? counts[what] : 0;
    }

    private static boolean isBetween(int v, int least, int greatest) {
        return v >= least && v <= greatest;
    }

    private static boolean isVertex(int i) {
        return i >= 0 && i < VERTICES;
    }

    private static boolean isRegister(int i) {
        return i >= 0 && i < REGISTERS;
    }

    private static boolean isOnScreen(int x, int y) {
        return x >= 0 && x < WIDTH && y >= 0 && y < HEIGHT;
    }

    private void keepError(int kind) {
        if (keptError == 0) {
            keptError = kind;
        }
    }

    private boolean refuse(int kind) {
        keepError(kind);
        return false;
    }

    private static int greatestOfSetting(int setting) {
        switch (setting) {
            case DEPTH_COMPARE: return 7;
            case DEPTH_MASK: return 1;
            case STENCIL_COMPARE: return 7;
            case REF: return GREATEST_STENCIL;
            case OPERATION_STENCIL_STOPS: return 5;
            case OPERATION_DEPTH_STOPS: return 5;
            case OPERATION_PASSES: return 5;
            case BLEND: return 4;
            case COLOUR_MASK: return 7;
            case CULL: return 2;
            case WRAP: return 2;
            default: return 1;
        }
    }

    private static int greatestToClear(int what) {
        switch (what) {
            case CLEAR_COLOURS: return GREATEST_COLOUR;
            case CLEAR_DEPTHS: return GREATEST_DEPTH;
            default: return GREATEST_STENCIL;
        }
    }

    private void clearPixel(int p, int what, int v) {
        if (what == CLEAR_COLOURS) {
            writeColour(p, v);
        } else if (what == CLEAR_DEPTHS) {
            writeDepth(p, v);
        } else {
            stencils[p] = v;
        }
    }

    private void writeColour(int p, int colour) {
        int mask = settings[COLOUR_MASK];
        int bits = 0;
        if ((mask & 1) != 0) {
            bits |= 0xFF0000;
        }
        if ((mask & 2) != 0) {
            bits |= 0x00FF00;
        }
        if ((mask & 4) != 0) {
            bits |= 0x0000FF;
        }
        colours[p] = (colours[p] & ~bits) | (colour & bits);
    }

    private void writeDepth(int p, int depth) {
        if (settings[DEPTH_MASK] == 1) {
            depths[p] = depth;
        }
    }

    private static boolean usesD(int op) {
        return op != OP_KILL;
    }

    private static boolean usesA(int op) {
        return op != OP_INT;
    }

    private static boolean usesB(int op) {
        return op != OP_COPY && op != OP_INT && op != OP_KILL;
    }

    private void drawPoints(int first, int count) {
        for (int i = 0; i < count; i++) {
            drawPoint(first + i);
        }
    }

    private void drawTriangles(int first, int count) {
        for (int i = 0; i + 2 < count; i += 3) {
            int k = first + i;
            drawTriangle(k, k + 1, k + 2);
        }
    }

    private void drawStrip(int first, int count) {
        for (int i = 0; i + 2 < count; i++) {
            int k = first + i;
            if (i % 2 == 0) {
                drawTriangle(k, k + 1, k + 2);
            } else {
                drawTriangle(k + 1, k, k + 2);
            }
        }
    }

    private void drawFan(int first, int count) {
        for (int i = 1; i + 1 < count; i++) {
            int k = first + i;
            drawTriangle(first, k, k + 1);
        }
    }

    private void drawPoint(int i) {
        counts[COUNT_DRAWN]++;
        // A shift rounds downwards, so places left of or above the screen stay outside of it.
        int x = vertexX[i] >> 3;
        int y = vertexY[i] >> 3;
        if (x < scissorLeft || x >= scissorRight || y < scissorTop || y >= scissorBottom) {
            return;
        }
        loadVertexValues(i, VALUES);
        finishPixel(x, y, vertexZ[i]);
    }

    private void drawTriangle(int a, int b, int c) {
        int area = cross(a, b, vertexX[c], vertexY[c]);
        if (area == 0 || isCulled(area > 0)) {
            return;
        }
        counts[COUNT_DRAWN]++;
        cornerA = a;
        cornerB = area > 0 ? b : c;
        cornerC = area > 0 ? c : b;
        flatVertex = c;
        for (int y = scissorTop; y < scissorBottom; y++) {
            for (int x = scissorLeft; x < scissorRight; x++) {
                if (coversPixel(x, y)) {
                    loadTriangleValues();
                    int z = triangleDepth();
                    finishPixel(x, y, z);
                }
            }
        }
    }

    private boolean isCulled(boolean front) {
        int cull = settings[CULL];
        return (cull == 1 && !front) || (cull == 2 && front);
    }

    private int cross(int a, int b, int x, int y) {
        return (vertexX[b] - vertexX[a]) * (y - vertexY[a])
                - (vertexY[b] - vertexY[a]) * (x - vertexX[a]);
    }

    private boolean coversPixel(int x, int y) {
        int middleX = 8 * x + 4;
        int middleY = 8 * y + 4;
        weightA = cross(cornerB, cornerC, middleX, middleY);
        weightB = cross(cornerC, cornerA, middleX, middleY);
        weightC = cross(cornerA, cornerB, middleX, middleY);
        return isInside(weightA, cornerB, cornerC)
                && isInside(weightB, cornerC, cornerA)
                && isInside(weightC, cornerA, cornerB);
    }

    private boolean isInside(int weight, int from, int to) {
        if (weight != 0) {
            return weight > 0;
        }
        int down = vertexY[to] - vertexY[from];
        int right = vertexX[to] - vertexX[from];
        return down < 0 || (down == 0 && right > 0);
    }

    private int triangleDepth() {
        long sum = (long) weightA * vertexZ[cornerA]
                + (long) weightB * vertexZ[cornerB]
                + (long) weightC * vertexZ[cornerC];
        return dividedDownwards(sum, (long) weightA + weightB + weightC);
    }

    private void loadTriangleValues() {
        long shareA = (long) weightA * vertexQ[cornerA];
        long shareB = (long) weightB * vertexQ[cornerB];
        long shareC = (long) weightC * vertexQ[cornerC];
        long shares = shareA + shareB + shareC;
        for (int n = 0; n < VALUES; n++) {
            long sum = shareA * vertexValues[cornerA * VALUES + n]
                    + shareB * vertexValues[cornerB * VALUES + n]
                    + shareC * vertexValues[cornerC * VALUES + n];
            registers[n] = dividedDownwards(sum, shares);
        }
        if (settings[FLAT] == 1) {
            loadVertexValues(flatVertex, PAINT_VALUES);
        }
    }

    private void loadVertexValues(int i, int howMany) {
        for (int n = 0; n < howMany; n++) {
            registers[n] = vertexValues[i * VALUES + n];
        }
    }

    private static int dividedDownwards(long sum, long divisor) {
        if (divisor <= 0) {
            return 0;
        }
        long quotient = sum / divisor;
        return (int) (quotient * divisor > sum ? quotient - 1 : quotient);
    }

    private void finishPixel(int x, int y, int z) {
        counts[COUNT_COVERED]++;
        registers[REGISTER_X] = x;
        registers[REGISTER_Z] = z;
        if (!survivesProgram()) {
            counts[COUNT_KILLED]++;
            return;
        }
        int p = y * WIDTH + x;
        // The program may have changed its register, so z itself is handed on.
        if (passesTests(p, z)) {
            counts[COUNT_PASSED]++;
            writeDepth(p, z);
            int colour = blendedColour(colours[p]);
            writeColour(p, colour);
        }
    }

    private boolean survivesProgram() {
        for (int i = 0; i < stepCount; i++) {
            int op = stepOps[i];
            // Numbers that an op doesn't use may be any int, so all are masked before they are indices.
            int d = stepDs[i] & LAST_REGISTER;
            int a = registers[stepAs[i] & LAST_REGISTER];
            int b = registers[stepBs[i] & LAST_REGISTER];
            if (op == OP_KILL) {
                if (a < 0) {
                    return false;
                }
            } else if (op == OP_TEXEL) {
                int s = wrapped(a >> 3);
                int t = wrapped(b >> 3);
                loadChannels(d, texels[t * TEXTURE_SIDE + s]);
            } else if (op == OP_INT) {
                registers[d] = stepAs[i];
            } else {
                registers[d] = computed(op, registers[d], a, b);
            }
        }
        return true;
    }

    private static int computed(int op, int d, int a, int b) {
        switch (op) {
            case OP_COPY: return a;
            case OP_ADD: return a + b;
            case OP_SUBTRACT: return a - b;
            case OP_MULTIPLY: return (a * b) >> 8;
            case OP_LESSER: return a < b ? a : b;
            case OP_GREATER: return a > b ? a : b;
            case OP_CHOOSE: return d < 0 ? a : b;
            default: return d;
        }
    }

    private int wrapped(int place) {
        int wrap = settings[WRAP];
        if (wrap == 0) {
            return place & LAST_TEXEL;
        }
        if (wrap == 1) {
            return place < 0 ? 0 : place > LAST_TEXEL ? LAST_TEXEL : place;
        }
        int mirrored = place & (2 * TEXTURE_SIDE - 1);
        return mirrored > LAST_TEXEL ? 2 * TEXTURE_SIDE - 1 - mirrored : mirrored;
    }

    private void loadChannels(int d, int colour) {
        registers[d] = (colour >> 16) & 255;
        registers[(d + 1) & LAST_REGISTER] = (colour >> 8) & 255;
        registers[(d + 2) & LAST_REGISTER] = colour & 255;
    }

    private boolean passesTests(int p, int z) {
        if (!compares(settings[STENCIL_COMPARE], settings[REF], stencils[p])) {
            counts[COUNT_STENCIL_STOPPED]++;
            changeStencil(p, settings[OPERATION_STENCIL_STOPS]);
            return false;
        }
        if (!compares(settings[DEPTH_COMPARE], z, depths[p])) {
            counts[COUNT_DEPTH_STOPPED]++;
            changeStencil(p, settings[OPERATION_DEPTH_STOPS]);
            return false;
        }
        changeStencil(p, settings[OPERATION_PASSES]);
        return true;
    }

    private static boolean compares(int how, int left, int right) {
        switch (how) {
            case 0: return false;
            case 1: return left < right;
            case 2: return left == right;
            case 3: return left <= right;
            case 4: return left > right;
            case 5: return left != right;
            case 6: return left >= right;
            default: return true;
        }
    }

    private void changeStencil(int p, int operation) {
        int old = stencils[p];
        switch (operation) {
            case 1:
                stencils[p] = 0;
                break;
            case 2:
                stencils[p] = settings[REF];
                break;
            case 3:
                stencils[p] = old < GREATEST_STENCIL ? old + 1 : GREATEST_STENCIL;
                break;
            case 4:
                stencils[p] = old > 0 ? old - 1 : 0;
                break;
            case 5:
                stencils[p] = GREATEST_STENCIL - old;
                break;
            default:
                break;
        }
    }

    private int blendedColour(int old) {
        int alpha = asChannel(registers[3]);
        int first = asChannel(registers[0]);
        int second = asChannel(registers[1]);
        int third = asChannel(registers[2]);
        first = blended(first, (old >> 16) & 255, alpha);
        second = blended(second, (old >> 8) & 255, alpha);
        third = blended(third, old & 255, alpha);
        return (first << 16) | (second << 8) | third;
    }

    private static int asChannel(int v) {
        return v < 0 ? 0 : v > GREATEST_CHANNEL ? GREATEST_CHANNEL : v;
    }

    private int blended(int fresh, int old, int alpha) {
        switch (settings[BLEND]) {
            case 1:
                return (fresh * alpha + old * (GREATEST_CHANNEL - alpha)) / GREATEST_CHANNEL;
            case 2:
                return fresh + old > GREATEST_CHANNEL ? GREATEST_CHANNEL : fresh + old;
            case 3:
                return fresh * old / GREATEST_CHANNEL;
            case 4:
                return old > fresh ? old - fresh : 0;
            default:
                return fresh;
        }
    }
}
