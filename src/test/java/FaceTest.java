import java.lang.reflect.Constructor;
import java.lang.reflect.Field;
import java.lang.reflect.Method;
import java.lang.reflect.Modifier;
import java.util.Arrays;
import java.util.Set;
import java.util.TreeSet;

/** The document's public face: its constants, constructor and methods, and no other visible member. */
public final class FaceTest {
    private static final Set<String> METHODS = Set.of(
            "boolean coin(int)", "int coins()", "int times(int,int)", "int rotate()", "int destroy(int)",
            "int split(int,int,int)", "int share(int)", "int lock(int)", "int give(int,int,int)", "int wrap(int)",
            "long unwrap()", "boolean set(int,int)", "boolean trim(int)", "int byteAt(int)", "int length()",
            "int version(int,int)", "int versions()", "int log(int,int)", "int entries()");
    private static final Set<String> CONSTANTS = Set.of(
            "BAD=-1", "FULL=-2", "COINS=-3", "STATE=-4", "SHAPE=-5", "GONE=-6", "LOCKED=-7", "FORGED=-8");

    public static void main(String[] args) throws IllegalAccessException {
        Due due = new Due("FaceTest");
        Class<?> face = EscrowedVersions.class;
        due.is("public and final", Modifier.isPublic(face.getModifiers()) && Modifier.isFinal(face.getModifiers()), true);
        methods(due, face);
        constants(due, face);
        Constructor<?>[] constructors = face.getDeclaredConstructors();
        due.is("number of constructors", constructors.length, 1);
        due.is("public constructor", Modifier.isPublic(constructors[0].getModifiers()), true);
        due.is("parameters of the constructor", constructors[0].getParameterCount(), 0);
        for (Class<?> inside : face.getDeclaredClasses()) {
            int modifiers = inside.getModifiers();
            due.is(inside + " is static and hidden", Modifier.isStatic(modifiers)
                    && !Modifier.isPublic(modifiers) && !Modifier.isProtected(modifiers), true);
        }
        due.end();
    }

    private static void methods(Due due, Class<?> face) {
        Set<String> seen = new TreeSet<>();
        Set<String> names = new TreeSet<>();
        for (Method method : face.getDeclaredMethods()) {
            if (Modifier.isPublic(method.getModifiers())) {
                seen.add(told(method));
                names.add(method.getName());
            }
        }
        due.is("public methods " + seen, seen.equals(METHODS), true);
        for (Method method : face.getDeclaredMethods()) {
            int modifiers = method.getModifiers();
            boolean hidden = Modifier.isPrivate(modifiers) && !names.contains(method.getName());
            due.is(method + " is of the face or hidden", Modifier.isPublic(modifiers) || hidden, true);
        }
    }

    private static String told(Method method) {
        String parameters = String.join(",",
                Arrays.stream(method.getParameterTypes()).map(Class::getName).toArray(String[]::new));
        return method.getReturnType() + " " + method.getName() + "(" + parameters + ")";
    }

    private static void constants(Due due, Class<?> face) throws IllegalAccessException {
        Set<String> seen = new TreeSet<>();
        for (Field field : face.getDeclaredFields()) {
            int modifiers = field.getModifiers();
            if (Modifier.isPublic(modifiers)) {
                due.is(field + " is static, final and an int", Modifier.isStatic(modifiers)
                        && Modifier.isFinal(modifiers) && field.getType() == int.class, true);
                seen.add(field.getName() + "=" + field.getInt(null));
            } else {
                due.is(field + " is private", Modifier.isPrivate(modifiers), true);
            }
        }
        due.is("constants " + seen, seen.equals(CONSTANTS), true);
    }
}
