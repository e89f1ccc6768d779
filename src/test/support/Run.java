import java.lang.reflect.InvocationTargetException;
import java.lang.reflect.Method;
import java.util.ArrayList;
import java.util.Arrays;
import java.util.HashMap;
import java.util.List;
import java.util.Map;

/** A run of calls on one new object; a wrong answer is printed with the calls ahead of it. */
final class Run {
    static final int NONE = -1, BAD = -11, OUTSIDE = -12, READONLY = -13, BUSY = -14, FULL = -15, ENDLESS = -16;
    private static final Map<String, Method> METHODS = new HashMap<>();
    private static int wrong;

    static {
        for (Method method : GlulxHeap.class.getMethods()) {
            if (method.getDeclaringClass() == GlulxHeap.class) {
                METHODS.put(method.getName(), method);
            }
        }
    }

    private final GlulxHeap heap = new GlulxHeap();
    private final List<String> calls = new ArrayList<>();
    private final String title;

    Run(String title) {
        this.title = title;
    }

    /** Calls a method and looks whether it answers what is due. */
    boolean due(long want, String name, int... arguments) {
        String told = name + Arrays.toString(arguments);
        String got = answer(name, arguments);
        calls.add(told + " -> " + got);
        if (got.equals(Long.toString(want))) {
            return true;
        }
        wrong++;
        System.out.println(title + ": " + told + " answered " + got + ", due is " + want);
        if (wrong <= 3) {
            System.out.println("  the calls: " + String.join("; ", calls));
        }
        return false;
    }

    /** The bytes of the code from a place on are those, and it has no more. */
    void codeIs(int from, int... bytes) {
        for (int i = 0; i < bytes.length; i++) {
            due(bytes[i], "code", from + i);
        }
        due(NONE, "code", from + bytes.length);
        due(from + bytes.length, "told", 6);
    }

    /** SIZE, START and the blocks (place, length, place, length ..) are those. */
    void heapIs(int size, int start, int... blocks) {
        due(size, "told", 0);
        due(start, "told", 1);
        due(blocks.length / 2, "told", 2);
        for (int i = 0; i < blocks.length; i++) {
            due(blocks[i], "block", i / 2, i % 2);
        }
    }

    private String answer(String name, int[] arguments) {
        Object[] boxed = new Object[arguments.length];
        for (int i = 0; i < boxed.length; i++) {
            boxed[i] = arguments[i];
        }
        try {
            return METHODS.get(name).invoke(heap, boxed).toString();
        } catch (InvocationTargetException thrown) {
            return "by throwing " + thrown.getCause();
        } catch (IllegalAccessException refused) {
            return "by refusing access";
        }
    }

    static void fault(String text) {
        wrong++;
        System.out.println(text);
    }

    static void end() {
        System.out.println(wrong == 0 ? "all answers are as due" : wrong + " answers are not as due");
        if (wrong != 0) {
            System.exit(1);
        }
    }
}
