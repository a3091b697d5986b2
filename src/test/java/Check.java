import java.lang.reflect.InvocationTargetException;
import java.lang.reflect.Method;
import java.util.Arrays;
import java.util.Comparator;
import java.util.function.IntConsumer;

/** What the tests share: they tell each answer that is not the one that is due. */
final class Check {
    private static int asked;
    private static int wrong;

    private Check() {
    }

    /** Runs each method whose name begins with its promise, so that none is forgotten, and ends the program. */
    static void all(Class<?> test) {
        Method[] methods = test.getDeclaredMethods();
        Arrays.sort(methods, Comparator.comparing(Method::getName));
        for (Method method : methods) {
            if (method.getName().startsWith("promise")) {
                run(method);
            }
        }
        end(test.getSimpleName());
    }

    private static void run(Method method) {
        int askedBefore = asked;
        int wrongBefore = wrong;
        try {
            method.invoke(null);
        } catch (InvocationTargetException e) {
            tell("throws " + e.getCause());
        } catch (IllegalAccessException e) {
            tell("can't be run: " + e);
        }
        if (asked == askedBefore) {
            tell("asks nothing");
        }
        if (wrong > wrongBefore) {
            Says says = method.getAnnotation(Says.class);
            System.out.println("  in " + method.getName() + (says == null ? "" : ": " + says.value()));
        }
    }

    static void same(String what, long got, long due) {
        asked++;
        if (got != due) {
            tell(what + " answered " + got + ", due is " + due);
        }
    }

    static void same(String what, double got, double due) {
        asked++;
        if (got != due) {
            tell(what + " answered " + got + ", due is " + due);
        }
    }

    static void holds(String what, boolean condition) {
        asked++;
        if (!condition) {
            tell(what + " does not hold");
        }
    }

    /** The call throws just that exception, and changes nothing. */
    static void refused(CourierWar war, String what, Class<? extends RuntimeException> due, Runnable call) {
        long before = war.digest();
        same(what + " throws " + due.getSimpleName(), thrown(call) == due ? 1 : 0, 1);
        same(what + " changes nothing", war.digest(), before);
    }

    /** The call is refused with each of the values. */
    static void refusedWith(CourierWar war, String what, Class<? extends RuntimeException> due, IntConsumer call,
            int... values) {
        for (int value : values) {
            refused(war, what + " " + value, due, () -> call.accept(value));
        }
    }

    static Class<?> thrown(Runnable call) {
        try {
            call.run();
            return null;
        } catch (RuntimeException e) {
            return e.getClass();
        }
    }

    /** The call saves one state, and undo brings back all that was before it. */
    static void undoable(CourierWar war, String what, Runnable call) {
        long before = war.digest();
        int saved = war.count(13);
        call.run();
        same(what + " saves a state", war.count(13), saved + 1);
        same(what + " undone leaves", war.undo(), saved);
        same(what + " undone", war.digest(), before);
    }

    static void type(CourierWar war, String text) {
        for (int i = 0; i < text.length(); i++) {
            war.append(text.charAt(i));
        }
    }

    static void end(String test) {
        System.out.println(test + ": " + asked + " answers, " + wrong + " wrong");
        System.exit(wrong == 0 && asked > 0 ? 0 : 1);
    }

    private static void tell(String text) {
        wrong++;
        if (wrong <= 20) {
            System.out.println(text);
        }
    }
}
