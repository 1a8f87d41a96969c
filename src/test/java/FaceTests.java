import java.lang.reflect.Constructor;
import java.lang.reflect.Executable;
import java.lang.reflect.Field;
import java.lang.reflect.Method;
import java.lang.reflect.Modifier;
import java.util.ArrayList;
import java.util.Arrays;
import java.util.List;
import java.util.TreeSet;

/** The class has just the document's face. */
final class FaceTests {
    private static final String OUT = "IndexOutOfBoundsException";
    private static final String ARGUMENT = "IllegalArgumentException";
    private static final String STATE = "IllegalStateException";

    private FaceTests() {
    }

    static void run(Tally t) {
        t.test("the face: the class", FaceTests::theClass);
        t.test("the face: its methods", FaceTests::methods);
        t.test("the face: its fields", FaceTests::fields);
        t.test("the face: private methods bear other names", FaceTests::privateNames);
    }

    private static void theClass() {
        Tally.is(Modifier.PUBLIC | Modifier.FINAL, PageMarriages.class.getModifiers());
        Constructor<?>[] all = PageMarriages.class.getDeclaredConstructors();
        Tally.is(1, all.length);
        Tally.is(0, all[0].getParameterCount());
        Tally.is(Modifier.PUBLIC, all[0].getModifiers());
        for (Class<?> inner : PageMarriages.class.getDeclaredClasses()) {
            boolean isFine = Modifier.isStatic(inner.getModifiers())
                && (inner.getModifiers() & (Modifier.PUBLIC | Modifier.PROTECTED)) == 0;
            Tally.is(inner.getName(), 1, isFine ? 1 : 0);
        }
    }

    private static String told(String name, Class<?>[] types, String... thrown) {
        List<String> names = new ArrayList<>();
        for (Class<?> type : types) {
            names.add(type.getSimpleName());
        }
        return name + names + Arrays.toString(thrown);
    }

    private static String told(Executable method) {
        String[] thrown = new String[method.getExceptionTypes().length];
        for (int i = 0; i < thrown.length; i++) {
            thrown[i] = method.getExceptionTypes()[i].getSimpleName();
        }
        return told(method.getName(), method.getParameterTypes(), thrown);
    }

    private static Class<?>[] ints(int count) {
        Class<?>[] types = new Class<?>[count];
        Arrays.fill(types, int.class);
        return types;
    }

    private static void methods() {
        TreeSet<String> due = new TreeSet<>(List.of(
            told("append", ints(1), ARGUMENT, STATE),
            told("clearText", ints(0)),
            told("errorPosition", ints(0)),
            told("load", ints(0), STATE),
            told("about", ints(1), ARGUMENT),
            told("page", ints(3), OUT, ARGUMENT),
            told("user", ints(2), OUT, ARGUMENT),
            told("group", ints(3), OUT, ARGUMENT),
            told("write", ints(3), OUT, ARGUMENT, STATE),
            told("fork", ints(1), OUT, STATE),
            told("exit", ints(1), OUT, STATE),
            told("marry", ints(2), OUT, STATE),
            told("tear", ints(2), OUT, STATE),
            told("press", ints(1), ARGUMENT),
            told("setEager", new Class<?>[] {boolean.class}),
            told("undo", ints(0), STATE),
            told("whyNot", ints(2), OUT),
            told("wouldDo", ints(2), OUT),
            told("marriages", ints(0)),
            told("mostFree", ints(0)),
            told("writable", ints(1), OUT),
            told("runScript", new Class<?>[] {int.class, long.class}, ARGUMENT),
            told("simulate", new Class<?>[] {long.class, int.class}, ARGUMENT),
            told("save", ints(1), OUT),
            told("restore", ints(1), OUT, STATE)));
        TreeSet<String> got = new TreeSet<>();
        for (Method method : PageMarriages.class.getDeclaredMethods()) {
            if (!Modifier.isPrivate(method.getModifiers())) {
                got.add(told(method));
                Tally.is(method.getName(), Modifier.PUBLIC, method.getModifiers());
                Tally.is(method.getName(), 1, method.getReturnType() == int.class ? 1 : 0);
            }
        }
        if (!due.equals(got)) {
            throw new AssertionError("the methods are " + got + ", due are " + due);
        }
    }

    private static void fields() {
        for (Field field : PageMarriages.class.getDeclaredFields()) {
            int due = field.getName().equals("NONE") ? Modifier.PUBLIC : Modifier.PRIVATE;
            Tally.is(field.getName(), due | Modifier.FINAL,
                field.getModifiers() & ~Modifier.STATIC);
        }
        Tally.is(-1, PageMarriages.NONE);
    }

    private static void privateNames() {
        TreeSet<String> names = new TreeSet<>();
        for (Method method : PageMarriages.class.getDeclaredMethods()) {
            if (Modifier.isPublic(method.getModifiers())) {
                names.add(method.getName());
            }
        }
        for (Method method : PageMarriages.class.getDeclaredMethods()) {
            boolean clashes = Modifier.isPrivate(method.getModifiers())
                && names.contains(method.getName());
            Tally.is(method.getName(), 0, clashes ? 1 : 0);
        }
    }
}
