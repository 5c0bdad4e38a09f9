import java.lang.reflect.Constructor;
import java.lang.reflect.Field;
import java.lang.reflect.Method;
import java.lang.reflect.Modifier;
import java.util.TreeSet;

/** The public face: the document's members, and no others but private ones. */
public final class FaceTest {
    private static final String[] FACE = {
        "int build(int,int,int,int) IndexOutOfBoundsException IllegalArgumentException IllegalStateException",
        "int dig(int,int,int) IndexOutOfBoundsException IllegalArgumentException IllegalStateException",
        "int light(int,int) IndexOutOfBoundsException IllegalArgumentException IllegalStateException",
        "int cell(int,int,int) IndexOutOfBoundsException",
        "int house(int,int) IndexOutOfBoundsException",
        "int addEngine(int,int,int,int) IndexOutOfBoundsException IllegalArgumentException IllegalStateException",
        "int stoke(int,int) IndexOutOfBoundsException IllegalArgumentException IllegalStateException",
        "int drive(int,int,int) IndexOutOfBoundsException IllegalStateException",
        "int relay(int,int) IndexOutOfBoundsException IllegalStateException",
        "int aim(int,int) IndexOutOfBoundsException IllegalStateException",
        "boolean takeUp(int) IndexOutOfBoundsException",
        "int engine(int,int) IndexOutOfBoundsException",
        "int pond(int) IndexOutOfBoundsException",
        "int pass(int) IllegalArgumentException",
        "int count(int) IndexOutOfBoundsException",
        "int foresee(int,int) IllegalArgumentException IndexOutOfBoundsException",
        "int lasts()",
        "int weakest(int) IndexOutOfBoundsException",
        "int advise(int,int) IndexOutOfBoundsException IllegalArgumentException",
        "double walls()",
        "long digest()",
    };

    public static void main(String[] args) {
        Check.same("the class is public and final", FireEngines.class.getModifiers(),
            Modifier.PUBLIC | Modifier.FINAL);
        publicMethods();
        othersArePrivate();
        Check.end();
    }

    private static void publicMethods() {
        TreeSet<String> due = new TreeSet<String>();
        for (String line : FACE) {
            due.add(line);
        }
        TreeSet<String> got = new TreeSet<String>();
        TreeSet<String> publicNames = new TreeSet<String>();
        for (Method method : FireEngines.class.getDeclaredMethods()) {
            if (!Modifier.isPrivate(method.getModifiers())) {
                got.add(asText(method));
                publicNames.add(method.getName());
            }
        }
        if (!got.equals(due)) {
            Check.fault("the methods that are not private are " + got);
        }
        for (Method method : FireEngines.class.getDeclaredMethods()) {
            if (Modifier.isPrivate(method.getModifiers()) && publicNames.contains(method.getName())) {
                Check.fault("a private method bears a public one's name: " + method.getName());
            }
        }
    }

    private static String asText(Method method) {
        StringBuilder text = new StringBuilder();
        text.append(method.getReturnType().getSimpleName()).append(' ').append(method.getName()).append('(');
        String comma = "";
        for (Class<?> type : method.getParameterTypes()) {
            text.append(comma).append(type.getSimpleName());
            comma = ",";
        }
        text.append(')');
        for (Class<?> type : method.getExceptionTypes()) {
            text.append(' ').append(type.getSimpleName());
        }
        return text.toString();
    }

    private static void othersArePrivate() {
        Constructor<?>[] constructors = FireEngines.class.getDeclaredConstructors();
        Check.same("constructors", constructors.length, 1);
        Check.same("the constructor's modifiers", constructors[0].getModifiers(), Modifier.PUBLIC);
        Check.same("the constructor's parameters", constructors[0].getParameterCount(), 0);
        for (Field field : FireEngines.class.getDeclaredFields()) {
            if (!Modifier.isPrivate(field.getModifiers())) {
                Check.fault("a field is not private: " + field.getName());
            }
            if (Modifier.isStatic(field.getModifiers()) && !Modifier.isFinal(field.getModifiers())) {
                Check.fault("a static field is not final: " + field.getName());
            }
        }
        for (Class<?> inside : FireEngines.class.getDeclaredClasses()) {
            int modifiers = inside.getModifiers();
            if (Modifier.isPublic(modifiers) || Modifier.isProtected(modifiers) || !Modifier.isStatic(modifiers)) {
                Check.fault("a class inside is not private and static: " + inside.getName());
            }
        }
    }
}
