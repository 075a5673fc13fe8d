import java.lang.reflect.Constructor;
import java.lang.reflect.Field;
import java.lang.reflect.Member;
import java.lang.reflect.Method;
import java.lang.reflect.Modifier;
import java.util.Arrays;
import java.util.Set;
import java.util.TreeSet;

/** The class has just the members that the document's face names; all else of it is private. */
public final class FaceTest {
    private static final Set<String> FACE = new TreeSet<>(Arrays.asList(
        "NONE",
        "ThreeLinkPair[]",
        "boolean start[int, int]",
        "boolean stop[int, int]",
        "void fault[int, int, int, int]",
        "boolean submit[int, int, int]",
        "int tick[]",
        "int state[int, int]",
        "int of[int, int, int]",
        "int link[int, int]",
        "int changes[int, int]",
        "int held[int]",
        "int inbox[int]",
        "long take[int]",
        "int lost[]"));

    public static void main(String[] args) {
        Class<?> pair = ThreeLinkPair.class;
        Set<String> shown = new TreeSet<>();
        for (Field field : pair.getDeclaredFields()) {
            note(shown, field, field.getName());
        }
        for (Constructor<?> made : pair.getDeclaredConstructors()) {
            note(shown, made, "ThreeLinkPair" + names(made.getParameterTypes()));
        }
        for (Method method : pair.getDeclaredMethods()) {
            note(shown, method, method.getReturnType() + " " + method.getName() + names(method.getParameterTypes()));
        }
        boolean right = shown.equals(FACE) && Modifier.isFinal(pair.getModifiers());
        System.out.println(right ? "the face is as the document says" : "the face is " + shown + ", due is " + FACE);
        if (!right) {
            System.exit(1);
        }
    }

    private static void note(Set<String> shown, Member member, String name) {
        if (!Modifier.isPrivate(member.getModifiers())) {
            shown.add(name + (Modifier.isPublic(member.getModifiers()) ? "" : " (not public)"));
        }
    }

    private static String names(Class<?>[] types) {
        return Arrays.toString(types);
    }
}
