import java.util.Arrays;

/** A call by its name and numbers, so that tests can hold calls in tables. */
final class Call {
    private final String name;
    private final int[] numbers;

    Call(String name, int... numbers) {
        this.name = name;
        this.numbers = numbers;
    }

    /** The same call with another number at one place. */
    Call with(int place, int v) {
        int[] changed = numbers.clone();
        changed[place] = v;
        return new Call(name, changed);
    }

    /** The answer; a boolean counts 1 or 0. */
    int on(PixelPipe pipe) {
        int[] n = numbers;
        switch (name) {
            case "vertex": return bit(pipe.vertex(n[0], n[1], n[2], n[3], n[4]));
            case "paint": return bit(pipe.paint(n[0], n[1], n[2], n[3], n[4]));
            case "coords": return bit(pipe.coords(n[0], n[1], n[2]));
            case "texel": return bit(pipe.texel(n[0], n[1], n[2]));
            case "set": return bit(pipe.set(n[0], n[1]));
            case "scissor": return bit(pipe.scissor(n[0], n[1], n[2], n[3]));
            case "clear": return bit(pipe.clear(n[0], n[1]));
            case "step": return pipe.step(n[0], n[1], n[2], n[3]);
            case "keep": return bit(pipe.keep(n[0]));
            case "draw": return pipe.draw(n[0], n[1], n[2]);
            case "pixel": return pipe.pixel(n[0], n[1]);
            case "at": return pipe.at(n[0], n[1], n[2]);
            case "error": return pipe.error();
            case "count": return pipe.count(n[0]);
            default: throw new IllegalArgumentException(name);
        }
    }

    int on(Model model) {
        return model.answer(name, numbers);
    }

    boolean is(String other) {
        return name.equals(other);
    }

    /** What this call answers when it is refused. */
    int refusal() {
        return is("step") || is("draw") ? -1 : 0;
    }

    private static int bit(boolean answer) {
        return answer ? 1 : 0;
    }

    @Override
    public String toString() {
        return name + Arrays.toString(numbers);
    }
}
