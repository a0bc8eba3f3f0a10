import java.lang.reflect.InvocationTargetException;
import java.lang.reflect.Method;
import java.util.Arrays;

/** Makes calls on an object by their names, and prints every one whose answer is not the one that is due. */
final class Due {
    private static final int MOST_PRINTED = 20;
    static final String ILLEGAL_ARGUMENT = "throws.java.lang.IllegalArgumentException";
    static final String ILLEGAL_STATE = "throws.java.lang.IllegalStateException";
    static final String NO_SUCH_ELEMENT = "throws.java.util.NoSuchElementException";

    private final String all;
    private String about;
    private int asked = 0;
    private int wrong = 0;
    private int printed = 0;

    Due(String about) {
        this.about = about;
        this.all = about;
    }

    /** One test by its own name: it fails by itself, and the others run all the same. */
    void test(String sentence, Runnable test) {
        int wrongBefore = wrong;
        about = sentence;
        printed = 0;
        try {
            test.run();
        } catch (RuntimeException | Error e) {
            wrong(": ended by " + e);
        }
        System.out.println((wrong == wrongBefore ? "  holds: " : "  BROKEN: ") + sentence);
        about = all;
    }

    void is(Object x, int want, String name, int... args) {
        outcomeIs(x, Integer.toString(want), name, args);
    }

    void illegalArgument(Object x, String name, int... args) {
        outcomeIs(x, ILLEGAL_ARGUMENT, name, args);
    }

    void illegalState(Object x, String name, int... args) {
        outcomeIs(x, ILLEGAL_STATE, name, args);
    }

    void noSuchElement(Object x, String name, int... args) {
        outcomeIs(x, NO_SUCH_ELEMENT, name, args);
    }

    /** The call throws so, and changes nothing. */
    void refuses(Scene scene, String exception, String name, int... args) {
        LevelTree x = scene.make();
        outcomeIs(x, exception, name, args);
        isStill(scene, x, "the refused " + name + Arrays.toString(args));
    }

    /** The object goes on as one to which this did not happen. */
    void isStill(Scene scene, LevelTree x, String after) {
        int kinds = scene.groups.length;
        same(scene + " after " + after, Portrait.of(x, kinds), Portrait.of(scene.make(), kinds));
    }

    void outcomeIs(Object x, String want, String name, int... args) {
        same(name + Arrays.toString(args), outcome(x, name, args), want);
    }

    void same(String what, String got, String want) {
        asked++;
        if (!got.equals(want)) {
            wrong(": " + what + " answered " + got + ", due is " + want);
        }
    }

    private void wrong(String what) {
        wrong++;
        printed++;
        // A test that is broken everywhere would fill the log.
        if (printed <= MOST_PRINTED) {
            System.out.println(about + what);
        }
    }

    void end() {
        System.out.println(all + ": " + asked + " asked, " + wrong + " not as due");
        if (wrong != 0) {
            System.exit(1);
        }
    }

    static String outcome(Object x, String name, int... args) {
        try {
            Class<?>[] types = new Class<?>[args.length];
            Arrays.fill(types, int.class);
            Method method = x.getClass().getDeclaredMethod(name, types);
            return String.valueOf(method.invoke(x, Arrays.stream(args).boxed().toArray()));
        } catch (InvocationTargetException e) {
            return "throws." + e.getCause().getClass().getName();
        } catch (ReflectiveOperationException e) {
            return "cannot be called: " + e;
        }
    }
}
