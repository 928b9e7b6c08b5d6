import java.lang.reflect.Constructor;
import java.lang.reflect.Field;
import java.lang.reflect.Method;
import java.lang.reflect.Modifier;
import java.util.Arrays;
import java.util.HashSet;
import java.util.Set;

/** The public face is the document's, and nothing else of the class can be seen (rules 1, 2 and 5). */
public final class FaceTests {
    private static final String[] METHODS = {
        "set(int,int,int)", "setAll()", "cancel(int)", "move(int,int)", "setComparers(int)", "setWindow(int)",
        "setLoading(int)", "setDrift(int)", "correct(int)", "run(int)", "type(char)", "clearText()", "undo()", "keep()",
        "restore()", "alarm(int,int)", "comparer(int,int)", "at(int)", "ringsIn(int)", "ifComparers(int,int,int)",
        "fewest(int)", "ring(int,int)", "count(int)"};
    private static final String[] CONSTANTS = {"UNKNOWN", "BAD_VALUE", "FULL", "NOT_POSSIBLE", "NONE"};
    private static final Checks CHECKS = new Checks("FaceTests");

    private FaceTests() {
    }

    public static void main(String[] args) throws IllegalAccessException {
        classes();
        constants();
        constructors();
        methods();
        CHECKS.close();
    }

    private static void classes() {
        int modifiers = SharedComparers.class.getModifiers();
        CHECKS.holds("public and final", Modifier.isPublic(modifiers) && Modifier.isFinal(modifiers));
        Class<?>[] inside = SharedComparers.class.getDeclaredClasses();
        CHECKS.holds("at most twelve classes", inside.length < 12);
        for (Class<?> one : inside) {
            int its = one.getModifiers();
            CHECKS.holds(one + " is static", Modifier.isStatic(its));
            CHECKS.holds(one + " is hidden", !Modifier.isPublic(its) && !Modifier.isProtected(its));
            CHECKS.holds(one + " has at most twenty fields", ownFields(one) <= 20);
        }
        CHECKS.holds("at most twenty fields", ownFields(SharedComparers.class) <= 20);
    }

    private static int ownFields(Class<?> one) {
        int many = 0;
        for (Field field : one.getDeclaredFields()) {
            if (Modifier.isStatic(field.getModifiers())) {
                CHECKS.holds(field + " is a constant", Modifier.isFinal(field.getModifiers()));
            } else {
                many++;
            }
        }
        return many;
    }

    private static void constants() throws IllegalAccessException {
        Set<String> seen = new HashSet<>();
        for (Field field : SharedComparers.class.getDeclaredFields()) {
            if (!Modifier.isPrivate(field.getModifiers())) {
                seen.add(field.getName());
                CHECKS.holds(field + " is a public constant", Modifier.isPublic(field.getModifiers())
                    && Modifier.isStatic(field.getModifiers()) && Modifier.isFinal(field.getModifiers()));
            }
        }
        CHECKS.holds("the constants", seen.equals(new HashSet<>(Arrays.asList(CONSTANTS))));
        for (int i = 0; i < CONSTANTS.length; i++) {
            try {
                CHECKS.due(CONSTANTS[i], SharedComparers.class.getField(CONSTANTS[i]).getInt(null), -1001 - i);
            } catch (NoSuchFieldException missing) {
                CHECKS.holds(CONSTANTS[i] + " is there", false);
            }
        }
    }

    private static void constructors() {
        Constructor<?>[] all = SharedComparers.class.getDeclaredConstructors();
        CHECKS.due("constructors", all.length, 1);
        CHECKS.holds("public, without arguments", Modifier.isPublic(all[0].getModifiers()) && all[0].getParameterCount() == 0);
    }

    private static void methods() {
        Set<String> face = new HashSet<>();
        Set<String> faceNames = new HashSet<>();
        for (Method method : SharedComparers.class.getDeclaredMethods()) {
            if (!Modifier.isPrivate(method.getModifiers())) {
                face.add(signature(method));
                faceNames.add(method.getName());
                CHECKS.holds(method + " is public and answers a number",
                    Modifier.isPublic(method.getModifiers()) && !Modifier.isStatic(method.getModifiers())
                    && method.getReturnType() == int.class);
            }
        }
        CHECKS.holds("the methods", face.equals(new HashSet<>(Arrays.asList(METHODS))));
        hidden(SharedComparers.class, faceNames);
        for (Class<?> one : SharedComparers.class.getDeclaredClasses()) {
            hidden(one, faceNames);
        }
    }

    private static void hidden(Class<?> one, Set<String> faceNames) {
        for (Method method : one.getDeclaredMethods()) {
            if (Modifier.isPrivate(method.getModifiers())) {
                CHECKS.holds(method + " bears no public name", !faceNames.contains(method.getName()));
                CHECKS.holds(method + " takes at most seven", method.getParameterCount() <= 7);
            }
        }
    }

    private static String signature(Method method) {
        StringBuilder text = new StringBuilder(method.getName()).append('(');
        for (Class<?> type : method.getParameterTypes()) {
            text.append(text.charAt(text.length() - 1) == '(' ? "" : ",").append(type.getName());
        }
        return text.append(')').toString();
    }
}
