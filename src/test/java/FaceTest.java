import java.lang.reflect.Constructor;
import java.lang.reflect.Field;
import java.lang.reflect.Method;
import java.lang.reflect.Modifier;
import java.util.Arrays;
import java.util.TreeSet;

/** The face is the document's, and nothing else can be seen from outside. */
public final class FaceTest {
    private static final String[] METHODS = {
        "public int LevelTree.add(int,int,int) throws java.lang.IllegalStateException",
        "public int LevelTree.cut(int) throws java.lang.IllegalArgumentException",
        "public int LevelTree.build()",
        "public int LevelTree.at(int) throws java.util.NoSuchElementException",
        "public int LevelTree.often(int,int,int) throws java.lang.IllegalArgumentException",
        "public int LevelTree.place(int,int) throws java.lang.IllegalArgumentException,java.util.NoSuchElementException",
        "public int LevelTree.least(int,int,int) throws java.lang.IllegalArgumentException,java.util.NoSuchElementException",
        "public int LevelTree.below(int,int,int) throws java.lang.IllegalArgumentException",
        "public int LevelTree.different(int,int) throws java.lang.IllegalArgumentException",
        "public int LevelTree.number(int) throws java.util.NoSuchElementException",
        "public int LevelTree.before(int,int,int) throws java.lang.IllegalArgumentException",
        "public int LevelTree.most(int,int) throws java.lang.IllegalArgumentException",
        "public int LevelTree.count(int)",
    };

    public static void main(String[] args) {
        Due due = new Due("the face");
        due.same("the class", LevelTree.class.toGenericString(), "public final class LevelTree");
        due.same("its package", LevelTree.class.getPackageName(), "");
        due.same("what it extends", LevelTree.class.getSuperclass().getName(), "java.lang.Object");
        due.same("what it implements", Arrays.toString(LevelTree.class.getInterfaces()), "[]");
        due.same("its constructors", constructors().toString(), "[public LevelTree()]");
        due.same("its methods", visibleMethods().toString(), new TreeSet<>(Arrays.asList(METHODS)).toString());
        due.same("private methods with a public one's name", doubledNames().toString(), "[]");
        due.same("fields that can be seen", visibleFields().toString(), "[]");
        due.same("classes inside that are open or not static", strayClasses(LevelTree.class).toString(), "[]");
        due.same("static fields that are not final", changingStatics(LevelTree.class).toString(), "[]");
        due.end();
    }

    private static TreeSet<String> constructors() {
        TreeSet<String> found = new TreeSet<>();
        for (Constructor<?> constructor : LevelTree.class.getDeclaredConstructors()) {
            found.add(constructor.toString());
        }
        return found;
    }

    private static TreeSet<String> visibleMethods() {
        TreeSet<String> found = new TreeSet<>();
        for (Method method : LevelTree.class.getDeclaredMethods()) {
            if (!Modifier.isPrivate(method.getModifiers())) {
                found.add(method.toString());
            }
        }
        return found;
    }

    private static TreeSet<String> doubledNames() {
        TreeSet<String> open = new TreeSet<>();
        TreeSet<String> hidden = new TreeSet<>();
        for (Method method : LevelTree.class.getDeclaredMethods()) {
            (Modifier.isPublic(method.getModifiers()) ? open : hidden).add(method.getName());
        }
        hidden.retainAll(open);
        return hidden;
    }

    private static TreeSet<String> visibleFields() {
        TreeSet<String> found = new TreeSet<>();
        for (Field field : LevelTree.class.getDeclaredFields()) {
            if (!Modifier.isPrivate(field.getModifiers())) {
                found.add(field.toString());
            }
        }
        return found;
    }

    private static TreeSet<String> strayClasses(Class<?> outer) {
        TreeSet<String> found = new TreeSet<>();
        for (Class<?> inner : outer.getDeclaredClasses()) {
            int modifiers = inner.getModifiers();
            if (Modifier.isPublic(modifiers) || Modifier.isProtected(modifiers) || !Modifier.isStatic(modifiers)) {
                found.add(inner.getName());
            }
            found.addAll(strayClasses(inner));
        }
        return found;
    }

    private static TreeSet<String> changingStatics(Class<?> outer) {
        TreeSet<String> found = new TreeSet<>();
        for (Field field : outer.getDeclaredFields()) {
            int modifiers = field.getModifiers();
            if (Modifier.isStatic(modifiers) && !Modifier.isFinal(modifiers)) {
                found.add(field.toString());
            }
        }
        for (Class<?> inner : outer.getDeclaredClasses()) {
            found.addAll(changingStatics(inner));
        }
        return found;
    }
}
