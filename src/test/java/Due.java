import java.lang.reflect.InvocationTargetException;
import java.lang.reflect.Method;
import java.util.Arrays;

/** Makes calls on an object by their names, and prints every one whose answer is not the one that is due. */
final class Due {
    private final String about;
    private int asked = 0;
    private int wrong = 0;

    Due(String about) {
        this.about = about;
    }

    void is(Object x, int want, String name, int... args) {
        outcomeIs(x, Integer.toString(want), name, args);
    }

    void illegalArgument(Object x, String name, int... args) {
        outcomeIs(x, "throws.java.lang.IllegalArgumentException", name, args);
    }

    void illegalState(Object x, String name, int... args) {
        outcomeIs(x, "throws.java.lang.IllegalStateException", name, args);
    }

    void noSuchElement(Object x, String name, int... args) {
        outcomeIs(x, "throws.java.util.NoSuchElementException", name, args);
    }

    void outcomeIs(Object x, String want, String name, int... args) {
        same(name + Arrays.toString(args), outcome(x, name, args), want);
    }

    void same(String what, String got, String want) {
        asked++;
        if (!got.equals(want)) {
            wrong++;
            System.out.println(about + ": " + what + " answered " + got + ", due is " + want);
        }
    }

    void end() {
        System.out.println(about + ": " + asked + " asked, " + wrong + " not as due");
        if (wrong != 0) {
            System.exit(1);
        }
    }

    static String outcome(Object x, String name, int... args) {
        try {
            Class<?>[] types = new Class<?>[args.length];
            Arrays.fill(types, int.class);
            Method method = x.getClass().getDeclaredMethod(name, types);
            return String.valueOf(method.invoke(x, Arrays.stream(args).boxed().toArray()));
        } catch (InvocationTargetException e) {
            return "throws." + e.getCause().getClass().getName();
        } catch (ReflectiveOperationException e) {
            return "cannot be called: " + e;
        }
    }
}
