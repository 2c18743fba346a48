import java.lang.reflect.Constructor;
import java.lang.reflect.Field;
import java.lang.reflect.Method;
import java.lang.reflect.Modifier;
import java.util.Arrays;
import java.util.Set;
import java.util.TreeSet;

/** The public face is the document's, and no member beside it can be seen from outside. */
public final class FaceTest {
    private static final Set<String> FACE = Set.of(
            "int begin(int,long)", "int add(int,long,int)", "int end(int)", "boolean there(int)", "long digest(int)",
            "int size(int)", "int get(int,int)", "boolean poison(int,int,int)", "boolean sound(int)",
            "boolean mirror(int)", "int repair(int)", "boolean refer(int,int)", "int referred(int)", "int sweep()",
            "int pack()", "int cut(int,int)", "int packOf(int)", "int count(int)");

    public static void main(String[] args) {
        Check.due("the class is public and final",
                ContentStore.class.getModifiers() & (Modifier.PUBLIC | Modifier.FINAL), Modifier.PUBLIC | Modifier.FINAL);
        methods();
        fields();
        constructors();
        for (Class<?> inside : ContentStore.class.getDeclaredClasses()) {
            Check.due(inside.getName() + " is static", Modifier.isStatic(inside.getModifiers()), true);
            Check.due(inside.getName() + " is not public", Modifier.isPublic(inside.getModifiers()), false);
        }
        Check.finish();
    }

    private static void methods() {
        Set<String> seen = new TreeSet<>();
        for (Method method : ContentStore.class.getDeclaredMethods()) {
            if (Modifier.isPrivate(method.getModifiers())) {
                for (String named : FACE) {
                    Check.due("private " + method.getName() + " has a name of the face",
                            named.contains(" " + method.getName() + "("), false);
                }
                continue;
            }
            seen.add(method.getReturnType() + " " + method.getName() + types(method.getParameterTypes()));
            Check.due(method + " is public", Modifier.isPublic(method.getModifiers()), true);
        }
        Check.due("the methods are the document's: " + seen, seen.equals(new TreeSet<>(FACE)), true);
    }

    private static void fields() {
        int seen = 0;
        for (Field field : ContentStore.class.getDeclaredFields()) {
            if (!Modifier.isPrivate(field.getModifiers())) {
                seen++;
                Check.due("the field is NONE: " + field, field.toString().equals("public static final int ContentStore.NONE"), true);
            }
        }
        Check.due("one field that can be seen", seen, 1);
    }

    private static void constructors() {
        Constructor<?>[] all = ContentStore.class.getDeclaredConstructors();
        Check.due("one constructor", all.length, 1);
        Check.due("it is public", Modifier.isPublic(all[0].getModifiers()), true);
        Check.due("it takes an int", types(all[0].getParameterTypes()).equals("(int)"), true);
    }

    private static String types(Class<?>[] types) {
        return Arrays.toString(types).replace("[", "(").replace("]", ")").replace(" ", "");
    }
}
