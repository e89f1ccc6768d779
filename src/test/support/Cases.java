import java.lang.reflect.InvocationTargetException;
import java.lang.reflect.Method;
import java.util.Arrays;
import java.util.Comparator;

/** Runs the cases of a test class: its static methods that bear a Case. A wrong answer is told with the case's name. */
final class Cases {
    private static final int SECONDS_MOST = 200;
    private static volatile String current = "";
    private static int wrong;

    private Cases() {
    }

    /** The name of the case that runs now: the promise, then the case. */
    static String current() {
        return current;
    }

    static void fault(String text) {
        wrong++;
        System.out.println(current + ": " + text);
    }

    static int faults() {
        return wrong;
    }

    /** Runs all cases; the program ends with exit code 1 if one of them is not as due. */
    static void run(Class<?> test) {
        watch();
        Method[] methods = test.getDeclaredMethods();
        Arrays.sort(methods, Comparator.comparing(Method::getName));
        String promise = test.getAnnotation(Case.class).value();
        int count = 0;
        int failed = 0;
        for (Method method : methods) {
            Case named = method.getAnnotation(Case.class);
            if (named == null) {
                continue;
            }
            current = promise + ": " + named.value();
            int before = wrong;
            invoke(method);
            count++;
            failed += wrong > before ? 1 : 0;
        }
        if (count == 0) {
            fault("there is no case in " + test);
        }
        System.out.println(promise + ": " + count + " cases, " + (wrong == 0 ? "all as due" : failed + " not as due"));
        if (wrong != 0) {
            System.exit(1);
        }
    }

    /** A call that does not end is a fault too. */
    private static void watch() {
        Thread watcher = new Thread(() -> {
            try {
                Thread.sleep(SECONDS_MOST * 1000L);
            } catch (InterruptedException stopped) {
                return;
            }
            System.out.println(current + ": does not end");
            System.out.flush();
            Runtime.getRuntime().halt(1);
        });
        watcher.setDaemon(true);
        watcher.start();
    }

    private static void invoke(Method method) {
        try {
            method.setAccessible(true);
            method.invoke(null);
        } catch (InvocationTargetException thrown) {
            fault("the test itself threw " + thrown.getCause());
        } catch (IllegalAccessException refused) {
            fault("the test can not be called");
        }
    }
}
