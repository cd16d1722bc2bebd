import java.lang.reflect.Constructor;
import java.lang.reflect.Field;
import java.lang.reflect.Method;
import java.lang.reflect.Modifier;
import java.util.Arrays;
import java.util.Set;
import java.util.TreeSet;

/** The class shows the document's face and nothing else. */
public final class FaceTest {
    private static final Set<String> FACE = new TreeSet<>(Arrays.asList(
            "int movement(int, int, int, int, int, int) throws IllegalArgumentException, IllegalStateException",
            "int arrive(int, int, int) throws IllegalArgumentException",
            "int control(int, int) throws IllegalArgumentException",
            "int receive(int, int) throws IllegalArgumentException",
            "boolean lose(int)",
            "int tick(int) throws IllegalArgumentException",
            "int discharge(int, int) throws IllegalArgumentException",
            "int proof(int) throws IllegalArgumentException",
            "int state(int, int) throws IndexOutOfBoundsException",
            "int office(int, int) throws IndexOutOfBoundsException",
            "int message(int, int) throws IndexOutOfBoundsException",
            "int count(int)"));

    public static void main(String[] args) {
        Check.due("public final", TransitSteps.class.getModifiers(), Modifier.PUBLIC | Modifier.FINAL);
        methods();
        constructors();
        fields();
        classesInside();
        Check.end();
    }

    private static void methods() {
        Set<String> seen = new TreeSet<>();
        Set<String> names = new TreeSet<>();
        for (Method m : TransitSteps.class.getDeclaredMethods()) {
            if (!Modifier.isPrivate(m.getModifiers())) {
                Check.yes(m.getName() + " is public and no more", m.getModifiers() == Modifier.PUBLIC);
                seen.add(told(m));
                names.add(m.getName());
            }
        }
        Check.same("the face", FACE.toString(), seen.toString());
        for (Method m : TransitSteps.class.getDeclaredMethods()) {
            if (Modifier.isPrivate(m.getModifiers())) {
                Check.no(m.getName() + " bears a public name", names.contains(m.getName()));
            }
        }
    }

    private static String told(Method m) {
        String text = m.getReturnType() + " " + m.getName() + list("(", m.getParameterTypes()) + ")";
        return m.getExceptionTypes().length == 0 ? text : text + list(" throws ", m.getExceptionTypes());
    }

    private static String list(String head, Class<?>[] types) {
        StringBuilder text = new StringBuilder(head);
        for (int i = 0; i < types.length; i++) {
            text.append(i == 0 ? "" : ", ").append(types[i].getSimpleName());
        }
        return text.toString();
    }

    private static void constructors() {
        Constructor<?>[] all = TransitSteps.class.getDeclaredConstructors();
        Check.due("constructors", all.length, 1);
        Check.same("the constructor", "public TransitSteps(int)", all[0].toString());
    }

    private static void fields() {
        for (Field f : TransitSteps.class.getDeclaredFields()) {
            int bits = f.getModifiers();
            boolean none = f.getName().equals("NONE")
                    && bits == (Modifier.PUBLIC | Modifier.STATIC | Modifier.FINAL) && f.getType() == int.class;
            Check.yes("field " + f.getName() + " is NONE or private", none || Modifier.isPrivate(bits));
            Check.yes("field " + f.getName() + " is final if static", !Modifier.isStatic(bits) || Modifier.isFinal(bits));
        }
    }

    private static void classesInside() {
        for (Class<?> c : TransitSteps.class.getDeclaredClasses()) {
            int bits = c.getModifiers();
            Check.yes(c.getName() + " is static", Modifier.isStatic(bits));
            Check.no(c.getName() + " is public or protected", Modifier.isPublic(bits) || Modifier.isProtected(bits));
            Check.yes(c.getName() + " has some twenty fields", c.getDeclaredFields().length <= 20);
        }
    }
}
