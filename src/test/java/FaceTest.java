import java.lang.reflect.Constructor;
import java.lang.reflect.Field;
import java.lang.reflect.Method;
import java.lang.reflect.Modifier;
import java.util.Set;
import java.util.TreeSet;

/** The class has the document's public face, and nothing else of it can be seen from outside. */
public final class FaceTest {
    private static final Set<String> FACE = Set.of(
            "public static final int WireBench.NONE",
            "public WireBench()",
            "public int WireBench.net(int,int) throws "
                    + "java.lang.IllegalArgumentException,java.lang.IllegalStateException",
            "public int WireBench.link(int,boolean) throws java.lang.IllegalArgumentException",
            "public int WireBench.fates(int,long,int) throws "
                    + "java.lang.IllegalArgumentException,java.lang.IllegalStateException",
            "public int WireBench.feed(long,int) throws "
                    + "java.lang.IllegalArgumentException,java.lang.IllegalStateException",
            "public int WireBench.put(int,int,int,int) throws java.lang.IllegalArgumentException",
            "public int WireBench.pass(int) throws "
                    + "java.lang.IllegalArgumentException,java.lang.IllegalStateException",
            "public boolean WireBench.next()",
            "public int WireBench.arrival(int) throws "
                    + "java.lang.IllegalArgumentException,java.lang.IllegalStateException",
            "public int WireBench.byteAt(int) throws "
                    + "java.lang.IllegalStateException,java.lang.IndexOutOfBoundsException",
            "public int WireBench.underWay()",
            "public int WireBench.fated(int) throws java.lang.IllegalArgumentException",
            "public int WireBench.puts(int) throws java.lang.IllegalArgumentException");

    public static void main(String[] args) {
        Set<String> seen = new TreeSet<>();
        for (Field field : WireBench.class.getDeclaredFields()) {
            addVisible(seen, field.getModifiers(), field.toGenericString());
            if (Modifier.isStatic(field.getModifiers())) {
                Checks.due(field + " is final", true,
                        () -> Modifier.isFinal(field.getModifiers()));
            }
        }
        for (Constructor<?> constructor : WireBench.class.getDeclaredConstructors()) {
            addVisible(seen, constructor.getModifiers(), constructor.toGenericString());
        }
        for (Method method : WireBench.class.getDeclaredMethods()) {
            addVisible(seen, method.getModifiers(), method.toGenericString());
        }
        Checks.same("the face", new TreeSet<>(FACE).toString(), seen.toString());
        int modifiers = WireBench.class.getModifiers();
        Checks.due("the class is public and final", true,
                () -> Modifier.isPublic(modifiers) && Modifier.isFinal(modifiers));
        Checks.end();
    }

    private static void addVisible(Set<String> seen, int modifiers, String text) {
        if (!Modifier.isPrivate(modifiers)) {
            seen.add(text);
        }
    }
}
