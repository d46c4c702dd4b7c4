import java.lang.reflect.Constructor;
import java.lang.reflect.Field;
import java.lang.reflect.Method;
import java.lang.reflect.Modifier;
import java.util.ArrayList;
import java.util.Arrays;
import java.util.List;
import java.util.TreeSet;

/** The face of the class is that of the document, no more and no less. */
public final class FaceTest {
    private static final String[] FACE = {
        "void open(int) throws IndexOutOfBoundsException IllegalStateException",
        "int feed(int,long,long,int) throws IndexOutOfBoundsException IllegalArgumentException"
            + " IllegalStateException",
        "void lose(int) throws IndexOutOfBoundsException IllegalStateException",
        "boolean isOpen(int) throws IndexOutOfBoundsException",
        "int size(int) throws IndexOutOfBoundsException",
        "int out(int,int) throws IndexOutOfBoundsException",
        "int take(int,int) throws IndexOutOfBoundsException IllegalArgumentException",
        "int pending(int) throws IndexOutOfBoundsException",
        "int pass(int) throws IllegalArgumentException",
        "boolean isSession(int) throws",
        "int session(int,int) throws IndexOutOfBoundsException IllegalArgumentException",
        "long expiry(int) throws IndexOutOfBoundsException",
        "int id(int,int) throws IndexOutOfBoundsException",
        "int subscription(int,int,int) throws IndexOutOfBoundsException IllegalArgumentException",
        "int filter(int,int,int) throws IndexOutOfBoundsException",
        "int retained(int,int) throws IllegalArgumentException",
        "int kept(int,boolean,int) throws",
        "int told(int) throws IllegalArgumentException",
    };

    public static void main(String[] args) {
        Check.same("NONE", -1, TopicBroker.NONE);
        Check.yes("public and final", Modifier.isPublic(TopicBroker.class.getModifiers())
                && Modifier.isFinal(TopicBroker.class.getModifiers()));
        Constructor<?>[] constructors = TopicBroker.class.getDeclaredConstructors();
        Check.same("constructors", 1, constructors.length);
        Check.same("its parameters", 0, constructors[0].getParameterCount());
        TreeSet<String> names = new TreeSet<>();
        List<String> found = new ArrayList<>();
        for (Method m : TopicBroker.class.getDeclaredMethods()) {
            if (!Modifier.isPrivate(m.getModifiers()) && !m.isSynthetic()) {
                found.add(write(m));
                names.add(m.getName());
            }
        }
        Check.same("methods", sorted(Arrays.asList(FACE)), sorted(found));
        for (Method m : TopicBroker.class.getDeclaredMethods()) {
            if (Modifier.isPrivate(m.getModifiers())) {
                Check.yes("no private method has a name of the face: " + m, !names.contains(m.getName()));
            }
        }
        for (Field f : TopicBroker.class.getDeclaredFields()) {
            boolean open = !Modifier.isPrivate(f.getModifiers()) && !f.isSynthetic();
            Check.yes("no other field: " + f, !open || f.getName().equals("NONE"));
            Check.yes("static fields are final: " + f, !Modifier.isStatic(f.getModifiers())
                    || Modifier.isFinal(f.getModifiers()));
        }
        Check.end();
    }

    private static String sorted(List<String> rows) {
        return new TreeSet<>(rows).toString();
    }

    private static String write(Method m) {
        StringBuilder text = new StringBuilder();
        text.append(m.getReturnType().getSimpleName()).append(' ').append(m.getName()).append('(');
        for (int i = 0; i < m.getParameterCount(); i++) {
            text.append(i > 0 ? "," : "").append(m.getParameterTypes()[i].getSimpleName());
        }
        text.append(") throws");
        for (Class<?> e : m.getExceptionTypes()) {
            text.append(' ').append(e.getSimpleName());
        }
        return text.toString();
    }
}
