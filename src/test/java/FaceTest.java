import java.lang.reflect.Constructor;
import java.lang.reflect.Field;
import java.lang.reflect.Method;
import java.lang.reflect.Modifier;
import java.util.Set;
import java.util.TreeSet;

/** The public face of the document, and that nothing else of the class can be seen from outside. */
public final class FaceTest {
    private static final String FACE = "apart(int,int)double:IllegalArgumentException,IllegalStateException,"
            + "UnsupportedOperationException count(int)int:IllegalArgumentException "
            + "cut(int)int:IllegalArgumentException "
            + "damage(int,int)int:IllegalArgumentException,IndexOutOfBoundsException "
            + "decode()int:UnsupportedOperationException "
            + "encode(int)int:IllegalArgumentException,IllegalStateException "
            + "fill(int,int,int,int,int)int:IllegalArgumentException,IndexOutOfBoundsException "
            + "get(int,int,int)int:IllegalArgumentException,IllegalStateException,IndexOutOfBoundsException "
            + "mode(boolean,int)int:IndexOutOfBoundsException "
            + "pixel(int,int,int)int:IllegalArgumentException,IndexOutOfBoundsException "
            + "size(int,int)int:IllegalArgumentException stream(int)int:IndexOutOfBoundsException";

    public static void main(String[] args) {
        Due.same("modifiers of the class", Modifier.PUBLIC | Modifier.FINAL, TileForge.class.getModifiers());
        Set<String> seen = new TreeSet<>();
        for (Method m : TileForge.class.getDeclaredMethods()) {
            if (!Modifier.isPrivate(m.getModifiers()) && !m.isSynthetic()) {
                seen.add(signature(m));
            }
        }
        Due.same("the methods", FACE, String.join(" ", seen));
        int fields = 0;
        for (Field f : TileForge.class.getDeclaredFields()) {
            fields += Modifier.isPrivate(f.getModifiers()) ? 0 : 1;
        }
        Due.same("fields that can be seen", 0, fields);
        Constructor<?>[] constructors = TileForge.class.getDeclaredConstructors();
        Due.same("constructors", 1, constructors.length);
        Due.same("parameters of the constructor", 0, constructors[0].getParameterCount());
        Due.same("the constructor is public", Modifier.PUBLIC, constructors[0].getModifiers());
        Due.end();
    }

    private static String signature(Method m) {
        StringBuilder text = new StringBuilder(m.getName()).append('(');
        String between = "";
        for (Class<?> type : m.getParameterTypes()) {
            text.append(between).append(type.getName());
            between = ",";
        }
        text.append(')').append(m.getReturnType().getName());
        between = ":";
        for (Class<?> type : m.getExceptionTypes()) {
            text.append(between).append(type.getSimpleName());
            between = ",";
        }
        return text.toString();
    }
}
