import java.lang.reflect.Constructor;
import java.lang.reflect.Field;
import java.lang.reflect.Method;
import java.lang.reflect.Modifier;
import java.util.ArrayList;
import java.util.List;
import java.util.TreeSet;

/** The public face of the document, and nothing beside it. */
public final class FaceTest {
    private static final Checks CHECKS = new Checks("FaceTest");

    private static final String INDEX = "IndexOutOfBoundsException";
    private static final String ARGUMENT = "IllegalArgumentException";
    private static final String STATE = "IllegalStateException";

    private static final String[] FACE = {
        face("int issue(int, int, int, int, int)", ARGUMENT, STATE),
        face("void relate(int, int, int)", ARGUMENT),
        face("int latest(int)", ARGUMENT),
        face("int begin()", STATE),
        face("int mark(int, int, int, int)", INDEX, ARGUMENT, STATE),
        face("int renew(int, int, int)", INDEX, ARGUMENT, STATE),
        face("int version(int, int)", INDEX, ARGUMENT),
        face("int offered(int)", INDEX),
        face("int whyNot(int)", INDEX),
        face("int sign(int, int)", INDEX, ARGUMENT, STATE),
        face("int pass(int)", ARGUMENT, STATE),
        face("int duties()"),
        face("int state(int)", INDEX),
        face("int day(int)", INDEX),
        face("boolean isSuspended(int)", INDEX),
        face("boolean perform(int)", INDEX, STATE),
        face("int notice(int)", INDEX, STATE),
        face("int settle(int)", INDEX, STATE),
        face("int owes(int, int)", INDEX, ARGUMENT),
    };

    public static void main(String[] args) throws ReflectiveOperationException {
        theClass();
        theConstants();
        theMethods();
        theClassesInside();
        CHECKS.finish();
    }

    private static String face(String call, String... thrown) {
        return call + new TreeSet<>(List.of(thrown));
    }

    private static String face(Method method) {
        List<String> types = new ArrayList<>();
        for (Class<?> type : method.getParameterTypes()) {
            types.add(type.getName());
        }
        List<String> thrown = new ArrayList<>();
        for (Class<?> type : method.getExceptionTypes()) {
            thrown.add(type.getSimpleName());
        }
        String call = method.getReturnType().getName() + " " + method.getName() + "(" + String.join(", ", types) + ")";
        return face(call, thrown.toArray(new String[0]));
    }

    private static void theClass() {
        int modifiers = ClauseShop.class.getModifiers();
        CHECKS.isTrue("the class is public", Modifier.isPublic(modifiers));
        CHECKS.isTrue("the class is final", Modifier.isFinal(modifiers));
        CHECKS.equal("its package", ClauseShop.class.getPackageName(), "");
        Constructor<?>[] constructors = ClauseShop.class.getDeclaredConstructors();
        CHECKS.equal("constructors", constructors.length, 1);
        CHECKS.isTrue("it is public", Modifier.isPublic(constructors[0].getModifiers()));
        CHECKS.equal("and takes nothing", constructors[0].getParameterCount(), 0);
    }

    private static void theConstants() throws ReflectiveOperationException {
        String[] names = {"OPEN", "DONE", "NOTICED", "BREACHED", "SETTLED"};
        int open = 0;
        for (Field field : ClauseShop.class.getDeclaredFields()) {
            if (!Modifier.isPrivate(field.getModifiers())) {
                open++;
            }
        }
        CHECKS.equal("fields that are not private", open, names.length);
        for (int value = 0; value < names.length; value++) {
            Field field = ClauseShop.class.getDeclaredField(names[value]);
            int wanted = Modifier.PUBLIC | Modifier.STATIC | Modifier.FINAL;
            CHECKS.equal(names[value] + " modifiers", field.getModifiers(), wanted);
            CHECKS.equal(names[value], field.getInt(null), value);
        }
    }

    private static void theMethods() {
        TreeSet<String> wanted = new TreeSet<>(List.of(FACE));
        TreeSet<String> got = new TreeSet<>();
        TreeSet<String> names = new TreeSet<>();
        for (Method method : ClauseShop.class.getDeclaredMethods()) {
            if (!Modifier.isPrivate(method.getModifiers())) {
                CHECKS.isTrue(method + " is public", Modifier.isPublic(method.getModifiers()));
                got.add(face(method));
                names.add(method.getName());
            }
        }
        CHECKS.equal("the public methods", got, wanted);
        for (Method method : ClauseShop.class.getDeclaredMethods()) {
            boolean isPrivate = Modifier.isPrivate(method.getModifiers());
            CHECKS.isTrue(method + " bears a name of its own", !isPrivate || !names.contains(method.getName()));
        }
    }

    private static void theClassesInside() {
        for (Class<?> inside : ClauseShop.class.getDeclaredClasses()) {
            int modifiers = inside.getModifiers();
            CHECKS.isTrue(inside + " is static", Modifier.isStatic(modifiers));
            CHECKS.isTrue(inside + " is not public", (modifiers & (Modifier.PUBLIC | Modifier.PROTECTED)) == 0);
        }
    }
}
