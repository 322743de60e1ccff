import java.lang.reflect.Field;
import java.lang.reflect.Method;
import java.lang.reflect.Modifier;
import java.util.Arrays;
import java.util.Set;
import java.util.TreeSet;

/** The class shows the document's face and nothing else. */
public final class FaceTest {
    private static final String[] FACE = {
        "add iii", "put iii", "take iii", "write iii", "insert iiii", "remove iii",
        "deliver iii", "copy iii", "lose iii", "ask ii", "tell ii", "power ib",
        "counter ii", "has iii", "size ii", "register ii", "length ii", "character iii",
        "clock ii", "knows iii", "count ii", "message iiii", "way ii"
    };

    public static void main(String[] args) throws ReflectiveOperationException {
        Class<?> face = ReplicaStore.class;
        Check.holds("the class is public and final",
            Modifier.isPublic(face.getModifiers()) && Modifier.isFinal(face.getModifiers()));
        Check.due("constructors", face.getDeclaredConstructors().length, 1);
        Check.holds("the constructor is public", Modifier.isPublic(face.getDeclaredConstructor().getModifiers()));
        methods(face);
        constants(face);
        for (Class<?> inside : face.getDeclaredClasses()) {
            Check.holds(inside + " is static and hidden", Modifier.isStatic(inside.getModifiers())
                && !Modifier.isPublic(inside.getModifiers()) && !Modifier.isProtected(inside.getModifiers()));
        }
        Check.end();
    }

    private static void methods(Class<?> face) {
        Set<String> shown = new TreeSet<>();
        Set<String> names = new TreeSet<>();
        for (String line : FACE) {
            names.add(line.substring(0, line.indexOf(' ')));
        }
        for (Method method : face.getDeclaredMethods()) {
            if (Modifier.isPrivate(method.getModifiers())) {
                Check.holds("no private method is named " + method.getName(), !names.contains(method.getName()));
                continue;
            }
            Check.holds(method + " is public and answers an int",
                Modifier.isPublic(method.getModifiers()) && method.getReturnType() == int.class);
            StringBuilder line = new StringBuilder(method.getName()).append(' ');
            for (Class<?> type : method.getParameterTypes()) {
                line.append(type.getName().charAt(0));
            }
            shown.add(line.toString());
        }
        Check.holds("the methods are " + shown, shown.equals(new TreeSet<>(Arrays.asList(FACE))));
    }

    private static void constants(Class<?> face) {
        Check.due("NONE", ReplicaStore.NONE, -1);
        Check.due("BAD", ReplicaStore.BAD, -2);
        Check.due("FULL", ReplicaStore.FULL, -3);
        Check.due("DOWN", ReplicaStore.DOWN, -4);
        int shown = 0;
        for (Field field : face.getDeclaredFields()) {
            if (!Modifier.isPrivate(field.getModifiers())) {
                shown++;
            }
        }
        Check.due("fields that are not private", shown, 4);
    }
}
