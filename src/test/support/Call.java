import java.util.Arrays;

/** A call of a GlulxHeap: the method's name and its arguments. */
final class Call {
    private final String name;
    private final int[] a;

    Call(String name, int... arguments) {
        this.name = name;
        a = arguments.clone();
    }

    /** What an object answers; if it throws, that is told in place of a number. */
    String answerOf(GlulxHeap heap) {
        try {
            return Long.toString(ask(heap));
        } catch (RuntimeException | StackOverflowError | OutOfMemoryError thrown) {
            return "by throwing " + thrown;
        }
    }

    private long ask(GlulxHeap x) {
        switch (name) {
            case "get": return x.get(a[0], a[1]);
            case "set": return x.set(a[0], a[1], a[2]);
            case "zero": return x.zero(a[0], a[1]);
            case "copy": return x.copy(a[0], a[1], a[2]);
            case "resize": return x.resize(a[0]);
            case "make": return x.make(a[0]);
            case "free": return x.free(a[0]);
            case "block": return x.block(a[0], a[1]);
            case "linear": return x.linear(a[0], a[1], a[2], a[3], a[4], a[5], a[6]);
            case "binary": return x.binary(a[0], a[1], a[2], a[3], a[4], a[5], a[6]);
            case "linked": return x.linked(a[0], a[1], a[2], a[3], a[4], a[5]);
            case "protect": return x.protect(a[0], a[1]);
            case "keep": return x.keep();
            case "back": return x.back();
            case "restart": return x.restart();
            case "same": return x.same();
            case "write": return x.write();
            case "code": return x.code(a[0]);
            case "poke": return x.poke(a[0], a[1]);
            case "cut": return x.cut(a[0]);
            case "read": return x.read();
            case "told": return x.told(a[0]);
            default: throw new IllegalArgumentException("no such call: " + name);
        }
    }

    @Override
    public String toString() {
        return name + Arrays.toString(a).replace('[', '(').replace(']', ')');
    }
}
