import java.lang.reflect.Constructor;
import java.lang.reflect.Field;
import java.lang.reflect.Method;
import java.lang.reflect.Modifier;
import java.util.Set;
import java.util.TreeSet;

/** The class has exactly the document's face, and nothing else can be seen of it. */
final class FaceTest {
    private static final Set<String> FACE = Set.of(
        "long add(long, long, boolean)",
        "long multiply(long, long, boolean)",
        "long divide(long, long, boolean)",
        "long root(long, boolean)",
        "long fused(long, long, long, boolean)",
        "long power(long, int, boolean)",
        "long half(long, long)",
        "long whole(long, int)",
        "int order(long, long)");

    public static void main(String[] args) {
        Check check = new Check();
        document(check);
        Class<?> face = OutwardFloats.class;
        int modifiers = face.getModifiers();
        holds(check, "public and final", Modifier.isPublic(modifiers) && Modifier.isFinal(modifiers));
        holds(check, "no class above it", face.getSuperclass() == Object.class && face.getInterfaces().length == 0);
        Constructor<?>[] constructors = face.getDeclaredConstructors();
        holds(check, "one constructor", constructors.length == 1
            && Modifier.isPublic(constructors[0].getModifiers()) && constructors[0].getParameterCount() == 0);
        fields(check, face);
        methods(check, face);
        for (Class<?> inside : face.getDeclaredClasses()) {
            holds(check, inside + " is static and not public",
                Modifier.isStatic(inside.getModifiers()) && !Modifier.isPublic(inside.getModifiers()));
        }
        check.end();
    }

    /** The face that is tested here is the one that the document writes out, line by line. */
    private static void document(Check check) {
        Set<String> due = new TreeSet<>(FACE);
        due.add("final class OutwardFloats {");
        due.add("OutwardFloats()");
        Set<String> told = new TreeSet<>();
        for (String line : Document.face()) {
            told.add(line.replaceAll("(long|int|boolean) \\w+([,)])", "$1$2"));
        }
        holds(check, "the document tells " + told, told.equals(due) || !Document.isAtHand());
    }

    private static void fields(Check check, Class<?> face) {
        for (Field field : face.getDeclaredFields()) {
            int modifiers = field.getModifiers();
            holds(check, field + " is private", Modifier.isPrivate(modifiers));
            holds(check, field + " is no static state", !Modifier.isStatic(modifiers) || Modifier.isFinal(modifiers));
        }
    }

    private static void methods(Check check, Class<?> face) {
        Set<String> seen = new TreeSet<>();
        Set<String> names = new TreeSet<>();
        for (Method method : face.getDeclaredMethods()) {
            if (!Modifier.isPrivate(method.getModifiers())) {
                seen.add(told(method));
                names.add(method.getName());
            }
        }
        holds(check, "the face is " + seen, seen.equals(FACE));
        for (Method method : face.getDeclaredMethods()) {
            boolean hidden = Modifier.isPrivate(method.getModifiers());
            holds(check, method + " has a name of its own", !hidden || !names.contains(method.getName()));
        }
    }

    private static String told(Method method) {
        StringBuilder text = new StringBuilder(method.getReturnType() + " " + method.getName() + "(");
        for (Class<?> type : method.getParameterTypes()) {
            text.append(text.charAt(text.length() - 1) == '(' ? "" : ", ").append(type);
        }
        boolean plain = Modifier.isPublic(method.getModifiers()) && !Modifier.isStatic(method.getModifiers());
        return text.append(plain ? ")" : ") hidden or static").toString();
    }

    private static void holds(Check check, String what, boolean held) {
        check.due(what, held ? 1 : 0, 1);
    }
}
