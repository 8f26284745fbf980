import java.lang.reflect.Constructor;
import java.lang.reflect.Field;
import java.lang.reflect.Method;
import java.lang.reflect.Modifier;
import java.util.Arrays;
import java.util.Set;
import java.util.TreeSet;

/** The face of the class: all that the document lists, and nothing else that is not private. */
final class FaceTests {
    /** Each method with the exceptions that it declares, in the order of the document. */
    private static final String[] CALLS = {"append(int) argument state", "clearText()", "errorPosition()",
        "load() state", "about(int) argument", "page(int,int) index argument", "block(int,int) index argument",
        "get(int) argument state", "keyAt(int) argument", "newest(int) argument", "lastCut(int) argument",
        "put(int,int) argument state", "remove(int) argument state", "sweep() state", "cut(int) argument state",
        "start() state", "setPolicy(int) argument", "undo() state", "victim()", "whyNoRoom()", "operations() state",
        "afterCut(int,int,int) argument state", "lasts(int) argument", "oldest()", "runScript(int,long) argument",
        "simulate(long,int) argument", "save(int) index", "restore(int) index state"};

    private FaceTests() {
    }

    static void run() {
        Check.isTrue("the class is public and final", Modifier.isPublic(TornPageLog.class.getModifiers())
                && Modifier.isFinal(TornPageLog.class.getModifiers()));
        Set<String> open = new TreeSet<>();
        Set<String> names = new TreeSet<>();
        for (Method m : TornPageLog.class.getDeclaredMethods()) {
            if (!Modifier.isPrivate(m.getModifiers())) {
                String types = Arrays.toString(m.getParameterTypes()).replaceAll("[\\[\\] ]", "");
                open.add(m.getName() + "(" + types + ")" + declared(m));
                names.add(m.getName());
                Check.isTrue(m.getName() + " answers an int", m.getReturnType() == int.class
                        && Modifier.isPublic(m.getModifiers()) && !Modifier.isStatic(m.getModifiers()));
            }
        }
        Check.same("the methods", open.toString(), new TreeSet<>(Arrays.asList(CALLS)).toString());
        for (Method m : TornPageLog.class.getDeclaredMethods()) {
            Check.isTrue("no private method is named " + m.getName(),
                    !Modifier.isPrivate(m.getModifiers()) || !names.contains(m.getName()));
        }
        Set<String> constants = new TreeSet<>();
        for (Field f : TornPageLog.class.getDeclaredFields()) {
            if (!Modifier.isPrivate(f.getModifiers())) {
                constants.add(Modifier.toString(f.getModifiers()) + " " + f.getType() + " " + f.getName());
            }
        }
        Check.same("the constants", constants.toString(),
                "[public static final int CUT, public static final int NONE]");
        Constructor<?>[] made = TornPageLog.class.getDeclaredConstructors();
        Check.isTrue("one public constructor", made.length == 1 && Modifier.isPublic(made[0].getModifiers())
                && made[0].getParameterCount() == 0);
        for (Class<?> inside : TornPageLog.class.getDeclaredClasses()) {
            Check.isTrue(inside.getName() + " is static and not open", Modifier.isStatic(inside.getModifiers())
                    && !Modifier.isPublic(inside.getModifiers()) && !Modifier.isProtected(inside.getModifiers()));
        }
    }

    private static String declared(Method m) {
        StringBuilder names = new StringBuilder();
        for (Class<?> e : m.getExceptionTypes()) {
            names.append(" ").append(Run.shortName(e.getSimpleName()));
        }
        return names.toString();
    }
}
