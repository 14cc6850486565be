import java.lang.reflect.Constructor;
import java.lang.reflect.Field;
import java.lang.reflect.Method;
import java.lang.reflect.Modifier;
import java.util.Set;
import java.util.TreeSet;

/** The document's face, and what LANGUAGE.md says of members (its rules 1, 5 and 11). */
final class FaceTest {
    private static final String[] FACE = {
        "int add(int,int,int,int)",
        "int block(int,int,int)",
        "int check()",
        "int compile(int) throws NoSuchElementException,IllegalArgumentException,UnsupportedOperationException",
        "int evaluate(int) throws NoSuchElementException,IllegalArgumentException,IllegalStateException",
        "int instruction(int,int)",
        "int look(int,int)",
        "int make(int,int,int,int,int)",
        "int register(int,int)",
        "int run(int)",
        "int size(int)",
        "int state()",
        "int steps()",
        "int type(int,int,int,int)",
        "boolean is(int,int)",
        "void clear()"
    };

    public static void main(String[] args) {
        Class<?> face = TypedMill.class;
        Expect.yes("the class is public and final", face.getModifiers() == (Modifier.PUBLIC | Modifier.FINAL));
        Set<String> found = new TreeSet<>();
        Set<String> names = new TreeSet<>();
        for (Method method : face.getDeclaredMethods()) {
            if (!Modifier.isPrivate(method.getModifiers())) {
                Expect.due("modifiers of " + method.getName(), method.getModifiers(), Modifier.PUBLIC);
                found.add(signature(method));
                names.add(method.getName());
            }
        }
        Expect.due("the methods", found.toString(), new TreeSet<>(Set.of(FACE)).toString());
        Constructor<?>[] constructors = face.getDeclaredConstructors();
        Expect.due("constructors", constructors.length, 1);
        Expect.due("its parameters", constructors[0].getParameterCount(), 0);
        Expect.yes("it is public", Modifier.isPublic(constructors[0].getModifiers()));
        Expect.yes("some twelve classes at most", face.getDeclaredClasses().length < 12);
        members(face, names, true);
        for (Class<?> inner : face.getDeclaredClasses()) {
            int modifiers = inner.getModifiers();
            boolean hidden = !Modifier.isPublic(modifiers) && !Modifier.isProtected(modifiers);
            Expect.yes(inner + " is static and not public", hidden && Modifier.isStatic(modifiers));
            members(inner, names, false);
        }
        Expect.end();
    }

    private static String signature(Method method) {
        StringBuilder text = new StringBuilder(method.getReturnType().getSimpleName());
        text.append(' ').append(method.getName()).append('(');
        for (int k = 0; k < method.getParameterCount(); k++) {
            text.append(k == 0 ? "" : ",").append(method.getParameterTypes()[k].getSimpleName());
        }
        text.append(')');
        Class<?>[] thrown = method.getExceptionTypes();
        for (int k = 0; k < thrown.length; k++) {
            text.append(k == 0 ? " throws " : ",").append(thrown[k].getSimpleName());
        }
        return text.toString();
    }

    private static void members(Class<?> owner, Set<String> names, boolean outer) {
        int fields = 0;
        for (Field field : owner.getDeclaredFields()) {
            int modifiers = field.getModifiers();
            boolean fixed = Modifier.isStatic(modifiers);
            fields += fixed ? 0 : 1;
            Expect.yes(field + " is final if it is static", !fixed || Modifier.isFinal(modifiers));
            Expect.yes(field + " is private", !outer || Modifier.isPrivate(modifiers));
        }
        Expect.yes(owner + " has some twenty fields at most", fields <= 20);
        for (Method method : owner.getDeclaredMethods()) {
            boolean own = Modifier.isPublic(method.getModifiers());
            Expect.yes(method + " has a name of its own", own || !names.contains(method.getName()));
            Expect.yes(method + " has seven parameters at most", method.getParameterCount() <= 7);
        }
    }
}
