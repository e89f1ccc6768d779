import java.util.ArrayList;
import java.util.List;

/** A run of calls on one new object; a wrong answer is printed with the calls ahead of it. */
final class Run {
    static final int NONE = -1, BAD = -11, OUTSIDE = -12, READONLY = -13, BUSY = -14, FULL = -15, ENDLESS = -16;
    static final int MOST = Integer.MAX_VALUE, LEAST = Integer.MIN_VALUE;
    /** Nothing is promised about an object behind so many calls. */
    static final int CALLS_MOST = 512;
    private static final int TOLD_CALLS = 40;

    private final GlulxHeap heap = new GlulxHeap();
    private final List<Call> calls = new ArrayList<>();
    private final List<String> answers = new ArrayList<>();

    /** Calls a method and looks whether it answers what is due. */
    boolean due(long want, String name, int... arguments) {
        Call call = new Call(name, arguments);
        String got = made(call);
        if (calls.size() > CALLS_MOST) {
            Cases.fault("the test makes more calls than the document speaks of");
            return false;
        }
        if (got.equals(Long.toString(want))) {
            return true;
        }
        Cases.fault(call + " answered " + got + ", due is " + want);
        tellCalls();
        return false;
    }

    /** The call answers what is due, and nothing that can be asked is another behind it. */
    boolean idle(long want, String name, int... arguments) {
        List<Call> before = new ArrayList<>(calls);
        if (!due(want, name, arguments)) {
            return false;
        }
        return alike(calls.get(before.size()), Picture.of(before), Picture.of(calls));
    }

    /** The call is refused, and what is refused changes nothing. */
    boolean refused(long want, String name, int... arguments) {
        return idle(want, name, arguments);
    }

    /** A call whose answer the test does not look at; only that it does not throw. */
    void any(String name, int... arguments) {
        Call call = new Call(name, arguments);
        String got = made(call);
        if (got.startsWith("by throwing")) {
            Cases.fault(call + " answered " + got);
        }
    }

    /** The bytes from a place on are those. */
    void bytesAre(int at, int... bytes) {
        for (int i = 0; i < bytes.length; i++) {
            due(bytes[i], "get", at + i, 1);
        }
    }

    /** The bytes of the code from a place on are those, and it has no more. */
    void codeIs(int from, int... bytes) {
        for (int i = 0; i < bytes.length; i++) {
            due(bytes[i], "code", from + i);
        }
        due(NONE, "code", from + bytes.length);
        due(from + bytes.length, "told", 6);
    }

    /** SIZE, START and the blocks (place, length, place, length ..) are those. */
    void heapIs(int size, int start, int... blocks) {
        due(size, "told", 0);
        due(start, "told", 1);
        due(blocks.length / 2, "told", 2);
        for (int i = 0; i < blocks.length; i++) {
            due(blocks[i], "block", i / 2, i % 2);
        }
    }

    /** Blocks of n bytes each, one behind the other, in a heap that has no gap but at its end. */
    void makeRow(int first, int n, int count) {
        for (int i = 0; i < count; i++) {
            due(first + n * i, "make", n);
        }
    }

    /** CODE becomes those bytes: a longer one is written, altered and cut. MEMORY is then as at first. */
    void giveCode(int... bytes) {
        due(1, "set", 64, 4, 0x01010101);
        for (int n = 4; n <= 256; n *= 2) {
            due(1, "copy", 64, 64 + n, n);
        }
        int length = 6 + 2 + 512;
        due(length, "write");
        for (int i = 0; i < bytes.length; i++) {
            any("poke", i, bytes[i]);
        }
        due(length - bytes.length, "cut", bytes.length);
        due(1, "restart");
    }

    private String made(Call call) {
        String got = call.answerOf(heap);
        calls.add(call);
        answers.add(got);
        return got;
    }

    private static boolean alike(Call call, List<String> then, List<String> now) {
        for (int i = 0; i < Math.min(then.size(), now.size()); i++) {
            if (!then.get(i).equals(now.get(i))) {
                Cases.fault("behind " + call + ": " + now.get(i) + ", ahead of it: " + then.get(i));
                return false;
            }
        }
        if (then.size() != now.size()) {
            Cases.fault("behind " + call + " there is more or less to ask than ahead of it");
            return false;
        }
        return true;
    }

    private void tellCalls() {
        if (Cases.faults() > 3) {
            return;
        }
        int from = Math.max(0, calls.size() - TOLD_CALLS);
        StringBuilder text = new StringBuilder("  the calls: ").append(from > 0 ? ".. " + from + " calls more; " : "");
        for (int i = from; i < calls.size(); i++) {
            text.append(calls.get(i)).append(" -> ").append(answers.get(i)).append("; ");
        }
        System.out.println(text);
    }
}
