import java.lang.reflect.Constructor;
import java.lang.reflect.Field;
import java.lang.reflect.Method;
import java.lang.reflect.Modifier;
import java.util.Set;
import java.util.TreeSet;

/** The class shows the document's face and nothing else. */
public final class FaceTest {
    /** As the document writes it, but for the ';' behind each. */
    private static final String[] WRITTEN = {
        "public int movement(int from, int to, int limit, int seal, int pieces, int amount)"
                + " throws IllegalArgumentException, IllegalStateException",
        "public int arrive(int movement, int office, int seal) throws IllegalArgumentException",
        "public int control(int movement, int found) throws IllegalArgumentException",
        "public int receive(int office, int message) throws IllegalArgumentException",
        "public boolean lose(int message)",
        "public int tick(int day) throws IllegalArgumentException",
        "public int discharge(int movement, int n) throws IllegalArgumentException",
        "public int proof(int movement) throws IllegalArgumentException",
        "public int state(int movement, int what) throws IndexOutOfBoundsException",
        "public int office(int movement, int office) throws IndexOutOfBoundsException",
        "public int message(int i, int what) throws IndexOutOfBoundsException",
        "public int count(int what)",
    };

    public static void main(String[] args) {
        Check.sentence("The public face");
        Check.due("public final", TransitSteps.class.getModifiers(), Modifier.PUBLIC | Modifier.FINAL);
        writtenAsInTheDocument();
        methods();
        constructors();
        fields();
        classesInside();
        Check.end();
    }

    /** Parameters have the document's names too, which only the source shows. */
    private static void writtenAsInTheDocument() {
        String source = Source.code().replaceAll("\\s+", " ");
        Check.yes("the class as written", source.startsWith("public final class TransitSteps { public static final int NONE = -1; "));
        Check.yes("the constructor as written", source.contains(" public TransitSteps(int offices) {"));
        for (String method : WRITTEN) {
            Check.yes(method + " as written", source.contains(" " + method + " {"));
        }
    }

    private static Set<String> face() {
        Set<String> face = new TreeSet<>();
        for (String method : WRITTEN) {
            face.add(method.replace("public ", "").replaceAll("(int) \\w+(?=[,)])", "$1"));
        }
        return face;
    }

    private static void methods() {
        Set<String> seen = new TreeSet<>();
        Set<String> names = new TreeSet<>();
        for (Method m : TransitSteps.class.getDeclaredMethods()) {
            if (!Modifier.isPrivate(m.getModifiers())) {
                Check.yes(m.getName() + " is public and no more", m.getModifiers() == Modifier.PUBLIC);
                seen.add(told(m));
                names.add(m.getName());
            }
        }
        Check.same("the face", face().toString(), seen.toString());
        for (Method m : TransitSteps.class.getDeclaredMethods()) {
            if (Modifier.isPrivate(m.getModifiers())) {
                Check.no(m.getName() + " bears a public name", names.contains(m.getName()));
            }
        }
    }

    private static String told(Method m) {
        String text = m.getReturnType() + " " + m.getName() + list("(", m.getParameterTypes()) + ")";
        return m.getExceptionTypes().length == 0 ? text : text + list(" throws ", m.getExceptionTypes());
    }

    private static String list(String head, Class<?>[] types) {
        StringBuilder text = new StringBuilder(head);
        for (int i = 0; i < types.length; i++) {
            text.append(i == 0 ? "" : ", ").append(types[i].getSimpleName());
        }
        return text.toString();
    }

    private static void constructors() {
        Constructor<?>[] all = TransitSteps.class.getDeclaredConstructors();
        Check.due("constructors", all.length, 1);
        Check.same("the constructor", "public TransitSteps(int)", all[0].toString());
    }

    private static void fields() {
        Check.sentence("The constants: `NONE = -1`: None.");
        Check.due("NONE", TransitSteps.NONE, -1);
        for (Field f : TransitSteps.class.getDeclaredFields()) {
            int bits = f.getModifiers();
            boolean none = f.getName().equals("NONE")
                    && bits == (Modifier.PUBLIC | Modifier.STATIC | Modifier.FINAL) && f.getType() == int.class;
            Check.yes("field " + f.getName() + " is NONE or private", none || Modifier.isPrivate(bits));
            Check.yes("field " + f.getName() + " is final if static", !Modifier.isStatic(bits) || Modifier.isFinal(bits));
        }
    }

    private static void classesInside() {
        for (Class<?> c : TransitSteps.class.getDeclaredClasses()) {
            int bits = c.getModifiers();
            Check.yes(c.getName() + " is static", Modifier.isStatic(bits));
            Check.no(c.getName() + " is public or protected", Modifier.isPublic(bits) || Modifier.isProtected(bits));
            Check.yes(c.getName() + " has some twenty fields", c.getDeclaredFields().length <= 20);
        }
    }
}
