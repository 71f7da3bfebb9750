import java.lang.reflect.Constructor;
import java.lang.reflect.Field;
import java.lang.reflect.Method;
import java.lang.reflect.Modifier;
import java.util.Set;
import java.util.TreeSet;

/** The class has the document's face and nothing else that can be seen. */
final class FaceTests {
    private static final String[] FACE = {
        "insert/5", "remove/1", "change/3", "setWeek/3", "setNumber/2", "ask/1", "set/1", "unset/0",
        "mend/0", "print/0", "skip/0", "take/1", "restore/1", "undo/0", "append/1", "clearText/0",
        "read/0", "count/1", "scene/2", "week/2", "why/1", "cutFrom/2", "since/1", "strand/2",
        "plan/1", "planned/2", "plans/0", "mostCut/0", "tooHigh/0"};

    private FaceTests() {
    }

    static void run() {
        constants();
        members();
        newObject();
    }

    private static void constants() {
        Check.due("INVALID_ARGUMENT", CliffSerial.INVALID_ARGUMENT, -100001);
        Check.due("ILLEGAL_STATE", CliffSerial.ILLEGAL_STATE, -100002);
        Check.due("CAPACITY_EXCEEDED", CliffSerial.CAPACITY_EXCEEDED, -100003);
        Check.due("NONE", CliffSerial.NONE, -100009);
    }

    private static void members() {
        Class<?> face = CliffSerial.class;
        Check.holds("public final class",
                Modifier.isPublic(face.getModifiers()) && Modifier.isFinal(face.getModifiers()));
        Set<String> open = new TreeSet<>();
        Set<String> hidden = new TreeSet<>();
        for (Method method : face.getDeclaredMethods()) {
            if (Modifier.isPublic(method.getModifiers())) {
                open.add(method.getName() + "/" + method.getParameterCount());
                Check.holds(method.getName() + " returns int", method.getReturnType() == int.class);
            } else {
                Check.holds(method.getName() + " is private", Modifier.isPrivate(method.getModifiers()));
                hidden.add(method.getName());
            }
        }
        Check.holds("methods of the face: " + open, open.equals(new TreeSet<>(Set.of(FACE))));
        for (String method : FACE) {
            String name = method.substring(0, method.indexOf('/'));
            Check.holds("no private method " + name, !hidden.contains(name));
        }
        for (Constructor<?> constructor : face.getDeclaredConstructors()) {
            Check.holds("constructor", Modifier.isPublic(constructor.getModifiers())
                    && constructor.getParameterCount() == 0);
        }
        int openFields = 0;
        for (Field field : face.getDeclaredFields()) {
            int modifiers = field.getModifiers();
            openFields += Modifier.isPublic(modifiers) ? 1 : 0;
            Check.holds(field.getName() + " is seen or private",
                    Modifier.isPublic(modifiers) || Modifier.isPrivate(modifiers));
            Check.holds(field.getName() + " is final if static",
                    !Modifier.isStatic(modifiers) || Modifier.isFinal(modifiers));
        }
        Check.due("open fields", openFields, 4);
    }

    /** Promise 1. */
    private static void newObject() {
        CliffSerial x = new CliffSerial();
        int[] first = {0, 0, 0, 0, 0, 300, 5, 400, 2, 0, 0, 0, 0, 0, 0, 0, 0, Check.NONE, 0, 0, 0};
        for (int what = 0; what < first.length; what++) {
            Check.due("new object, count(" + what + ")", x.count(what), first[what]);
        }
        int[] week = {2, 0, 600, Check.NONE, Check.NONE};
        for (int i = 0; i < 30; i++) {
            for (int what = 0; what < week.length; what++) {
                Check.due("new object, week(" + i + ", " + what + ")", x.week(i, what), week[what]);
            }
        }
        Check.due("new object, read()", x.read(), -1000);
        Check.due("new object, scene(0, 0)", x.scene(0, 0), Check.INVALID);
        Check.due("new object, restore(0)", x.restore(0), Check.ILLEGAL);
        Check.due("new object, restore(1)", x.restore(1), Check.ILLEGAL);
        Check.due("new object, undo()", x.undo(), Check.ILLEGAL);
    }
}
