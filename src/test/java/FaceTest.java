import java.lang.reflect.Constructor;
import java.lang.reflect.Executable;
import java.lang.reflect.Field;
import java.lang.reflect.Method;
import java.lang.reflect.Modifier;
import java.util.Arrays;
import java.util.Set;
import java.util.TreeSet;

/** The public face: the document's members and no others; and what can be seen from outside of LANGUAGE.md. */
public final class FaceTest {
    private static final Class<?> FORGE = HandshakeForge.class;
    private static final Set<String> METHODS = Set.of(
            "public int feed(int,int,int,int,int)", "public int end(int)", "public int compile()", "public int begin()",
            "public int run(int)", "public int give(int,int)", "public long take(int)", "public long look(int)",
            "public int count(int)");
    private static final Set<String> NAMES =
            Set.of("feed", "end", "compile", "begin", "run", "give", "take", "look", "count");

    private final Harness h = new Harness("FaceTest");

    public static void main(String[] args) throws ReflectiveOperationException {
        FaceTest test = new FaceTest();
        test.theClass();
        test.constants();
        test.constructor();
        test.methods();
        test.classesInside();
        test.h.close();
    }

    private void holds(String what, boolean right) {
        h.due(what, right ? 1 : 0, 1);
    }

    private void theClass() {
        int modifiers = FORGE.getModifiers();
        holds("the class is public", Modifier.isPublic(modifiers));
        holds("the class is final", Modifier.isFinal(modifiers));
        holds("the class has no package", FORGE.getPackageName().isEmpty());
        holds("the class extends nothing", FORGE.getSuperclass() == Object.class);
        holds("the class implements nothing", FORGE.getInterfaces().length == 0);
    }

    /** REFUSED, NONE and FULL, each public, static, final and an int; all other fields are private. */
    private void constants() throws ReflectiveOperationException {
        String[] names = {"REFUSED", "NONE", "FULL"};
        for (int i = 0; i < names.length; i++) {
            Field field = FORGE.getField(names[i]);
            holds(field + " is a public constant", field.getModifiers()
                    == (Modifier.PUBLIC | Modifier.STATIC | Modifier.FINAL) && field.getType() == int.class);
            h.due(names[i], field.getInt(null), -1 - i);
        }
        for (Field field : FORGE.getDeclaredFields()) {
            boolean own = Modifier.isPrivate(field.getModifiers());
            holds(field + " is private", own || Arrays.asList(names).contains(field.getName()));
        }
    }

    private void constructor() {
        Constructor<?>[] constructors = FORGE.getDeclaredConstructors();
        h.due("constructors", constructors.length, 1);
        holds("the constructor is public", Modifier.isPublic(constructors[0].getModifiers()));
        h.due("parameters of the constructor", constructors[0].getParameterCount(), 0);
        throwsNothing(constructors[0]);
    }

    private void methods() {
        Set<String> visible = new TreeSet<>();
        for (Method method : FORGE.getDeclaredMethods()) {
            if (!Modifier.isPrivate(method.getModifiers())) {
                visible.add(method.toString().replace("HandshakeForge.", ""));
                throwsNothing(method);
            }
        }
        holds("the methods are " + visible, visible.equals(METHODS));
    }

    private void throwsNothing(Executable member) {
        h.due("exceptions that " + member + " declares", member.getExceptionTypes().length, 0);
    }

    /** Rules 1, 5 and 11: how the classes inside look, and how great they are. */
    private void classesInside() {
        Class<?>[] inside = FORGE.getDeclaredClasses();
        holds("at most twelve classes", inside.length < 12);
        small(FORGE);
        for (Class<?> one : inside) {
            int modifiers = one.getModifiers();
            holds(one + " is static", Modifier.isStatic(modifiers));
            holds(one + " is not public", !Modifier.isPublic(modifiers) && !Modifier.isProtected(modifiers));
            small(one);
            for (Method method : one.getDeclaredMethods()) {
                holds(method + " has a name of its own", !NAMES.contains(method.getName()));
            }
        }
    }

    private void small(Class<?> one) {
        int fields = 0;
        for (Field field : one.getDeclaredFields()) {
            if (Modifier.isStatic(field.getModifiers())) {
                holds(field + " never changes", Modifier.isFinal(field.getModifiers()));
            } else {
                fields++;
            }
        }
        holds(one + " has some twenty fields at most", fields <= 20);
        for (Method method : one.getDeclaredMethods()) {
            holds(method + " takes at most seven parameters", method.getParameterCount() <= 7);
        }
        for (Constructor<?> constructor : one.getDeclaredConstructors()) {
            holds(constructor + " takes at most seven parameters", constructor.getParameterCount() <= 7);
        }
    }
}
