import java.lang.reflect.Constructor;
import java.lang.reflect.Field;
import java.lang.reflect.Method;
import java.lang.reflect.Modifier;
import java.util.ArrayList;
import java.util.Arrays;
import java.util.List;
import java.util.TreeSet;

/** "The public face": what others can see of the class is this, and nothing else. */
public final class FaceTest {
    private static final String ARGUMENT = " throws IllegalArgumentException";
    private static final String BOTH = " throws IllegalArgumentException IllegalStateException";

    private static final List<String> FACE = List.of(
            "void setUp(int int)" + BOTH,
            "int point(int int int)" + BOTH,
            "int forbid(int int int)" + BOTH,
            "void share(int int int int int)" + BOTH,
            "void order(int int int)" + ARGUMENT,
            "void load(int int)" + ARGUMENT,
            "int fate(int)" + BOTH,
            "int tick(int)" + ARGUMENT,
            "int look(int int)" + ARGUMENT,
            "int pair(int int)" + ARGUMENT,
            "int bus(int)" + ARGUMENT);

    private static final Check check = new Check();

    public static void main(String[] args) {
        check.sentence("public final class CraneSite", FaceTest::theClass);
        check.sentence("public CraneSite();", FaceTest::theConstructor);
        check.sentence("The public face: its methods", FaceTest::theMethods);
        check.sentence("The public face: no constants", FaceTest::theFields);
        check.sentence("LANGUAGE.md, rule 1: the classes inside", FaceTest::theClassesInside);
        check.sentence("LANGUAGE.md, rule 1: private names", FaceTest::thePrivateNames);
        check.end();
    }

    private static void holds(String what, boolean so) {
        if (!so) {
            check.fail(what + " is not so");
        }
    }

    private static void theClass() {
        int modifiers = CraneSite.class.getModifiers();
        holds("public", Modifier.isPublic(modifiers));
        holds("final", Modifier.isFinal(modifiers));
        holds("without a package", CraneSite.class.getPackageName().isEmpty());
        holds("of no other class", CraneSite.class.getSuperclass() == Object.class);
        holds("of no interface", CraneSite.class.getInterfaces().length == 0);
    }

    private static void theConstructor() {
        Constructor<?>[] all = CraneSite.class.getDeclaredConstructors();
        check.equal("constructors", all.length, 1);
        holds("public", Modifier.isPublic(all[0].getModifiers()));
        check.equal("its parameters", all[0].getParameterCount(), 0);
        check.equal("its exceptions", all[0].getExceptionTypes().length, 0);
    }

    private static void theMethods() {
        List<String> seen = new ArrayList<>();
        for (Method method : CraneSite.class.getDeclaredMethods()) {
            if (Modifier.isPrivate(method.getModifiers())) {
                continue;
            }
            holds("plainly public " + method.getName(), method.getModifiers() == Modifier.PUBLIC);
            seen.add(asText(method));
        }
        check.equal("methods that can be seen", seen.size(), FACE.size());
        for (String due : FACE) {
            holds(due, seen.contains(due));
        }
    }

    private static String asText(Method method) {
        StringBuilder text = new StringBuilder();
        text.append(method.getReturnType().getSimpleName()).append(' ').append(method.getName());
        text.append('(').append(names(method.getParameterTypes())).append(')');
        text.append(" throws ").append(names(method.getExceptionTypes()));
        return text.toString();
    }

    private static String names(Class<?>[] types) {
        return String.join(" ", Arrays.stream(types).map(Class::getSimpleName).toList());
    }

    private static void theFields() {
        for (Field field : CraneSite.class.getDeclaredFields()) {
            holds("private " + field.getName(), Modifier.isPrivate(field.getModifiers()));
        }
    }

    private static void theClassesInside() {
        for (Class<?> inside : CraneSite.class.getDeclaredClasses()) {
            int modifiers = inside.getModifiers();
            holds("static " + inside.getSimpleName(), Modifier.isStatic(modifiers));
            boolean open = Modifier.isPublic(modifiers) || Modifier.isProtected(modifiers);
            holds("not for others " + inside.getSimpleName(), !open);
        }
    }

    private static void thePrivateNames() {
        TreeSet<String> open = new TreeSet<>();
        for (Method method : CraneSite.class.getMethods()) {
            open.add(method.getName());
        }
        List<Class<?>> classes = new ArrayList<>(List.of(CraneSite.class.getDeclaredClasses()));
        classes.add(CraneSite.class);
        for (Class<?> each : classes) {
            for (Method method : each.getDeclaredMethods()) {
                boolean shut = Modifier.isPrivate(method.getModifiers());
                holds("own name of " + method.getName(), !shut || !open.contains(method.getName()));
            }
        }
    }
}
