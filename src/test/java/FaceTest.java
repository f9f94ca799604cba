import java.lang.reflect.Constructor;
import java.lang.reflect.Field;
import java.lang.reflect.Method;
import java.lang.reflect.Modifier;
import java.util.Set;
import java.util.TreeSet;

/** The public face: what it lists is there, and nothing else can be seen. */
public final class FaceTest {
    public static void main(String[] args) {
        Checks checks = new Checks();
        Class<MinIntGuard> face = MinIntGuard.class;
        checks.holds("the class is public", Modifier.isPublic(face.getModifiers()));
        checks.holds("the class is final", Modifier.isFinal(face.getModifiers()));
        checks.holds("the class extends Object", face.getSuperclass() == Object.class);
        checks.due("interfaces", face.getInterfaces().length, 0);
        checks.due("nested classes", face.getDeclaredClasses().length, 0);

        Constructor<?>[] constructors = face.getDeclaredConstructors();
        checks.due("constructors", constructors.length, 1);
        checks.holds("the constructor is public and takes nothing",
            constructors[0].toString().equals("public MinIntGuard()"));

        for (Field field : face.getDeclaredFields()) {
            checks.holds(field + " is private", Modifier.isPrivate(field.getModifiers()));
            checks.holds(field + " is not static, or constant",
                !Modifier.isStatic(field.getModifiers()) || Modifier.isFinal(field.getModifiers()));
        }

        Set<String> visible = new TreeSet<>();
        for (Method method : face.getDeclaredMethods()) {
            if (!Modifier.isPrivate(method.getModifiers())) {
                visible.add(method.toString());
            }
        }
        Set<String> listed = new TreeSet<>(Set.of(
            "public int MinIntGuard.minus()",
            "public int MinIntGuard.digit(int)",
            "public int MinIntGuard.verdict()",
            "public int MinIntGuard.asInt()"));
        checks.holds("visible methods " + visible + " are " + listed, visible.equals(listed));
        checks.end();
    }
}
