import java.lang.reflect.Constructor;
import java.lang.reflect.Field;
import java.lang.reflect.Member;
import java.lang.reflect.Method;
import java.lang.reflect.Modifier;
import java.util.Arrays;
import java.util.Set;
import java.util.TreeSet;

/** The class has just the members that the document's face names; all else of it is private. */
public final class FaceTest extends Checks {
    private static final String INDEX = " throws java.lang.IndexOutOfBoundsException";

    private static final Set<String> FACE = new TreeSet<>(Arrays.asList(
        "public static final int ThreeLinkPair.NONE",
        "public ThreeLinkPair()",
        "public boolean ThreeLinkPair.start(int,int)" + INDEX,
        "public boolean ThreeLinkPair.stop(int,int)" + INDEX,
        "public void ThreeLinkPair.fault(int,int,int,int)" + INDEX + ",java.lang.IllegalArgumentException",
        "public boolean ThreeLinkPair.submit(int,int,int)" + INDEX,
        "public int ThreeLinkPair.tick()",
        "public int ThreeLinkPair.state(int,int)" + INDEX,
        "public int ThreeLinkPair.of(int,int,int)" + INDEX,
        "public int ThreeLinkPair.link(int,int)" + INDEX,
        "public int ThreeLinkPair.changes(int,int)" + INDEX,
        "public int ThreeLinkPair.held(int)" + INDEX,
        "public int ThreeLinkPair.inbox(int)" + INDEX,
        "public long ThreeLinkPair.take(int)" + INDEX + ",java.util.NoSuchElementException",
        "public int ThreeLinkPair.lost()"));

    public static void main(String[] args) {
        Class<?> pair = ThreeLinkPair.class;
        part = "The public face";
        same("the class", pair.toGenericString(), "public final class ThreeLinkPair");
        same("what it extends", pair.getSuperclass().getName(), "java.lang.Object");
        due("how many interfaces it has", pair.getInterfaces().length, 0);
        same("what is not private", shownOf(pair).toString(), FACE.toString());
        same("private methods with a public name", doubled(pair).toString(), "[]");
        for (Class<?> inside : pair.getDeclaredClasses()) {
            int modifiers = inside.getModifiers();
            yes(inside + " is static", Modifier.isStatic(modifiers));
            no(inside + " is shown", Modifier.isPublic(modifiers) || Modifier.isProtected(modifiers));
            same("private methods with a public name in " + inside, doubled(inside).toString(), "[]");
        }
        finish("the face is as the document says");
    }

    private static Set<String> shownOf(Class<?> pair) {
        Set<String> shown = new TreeSet<>();
        for (Field field : pair.getDeclaredFields()) {
            note(shown, field, field.toString());
        }
        for (Constructor<?> made : pair.getDeclaredConstructors()) {
            note(shown, made, made.toString());
        }
        for (Method method : pair.getDeclaredMethods()) {
            note(shown, method, method.toString());
        }
        return shown;
    }

    private static void note(Set<String> shown, Member member, String text) {
        if (!Modifier.isPrivate(member.getModifiers())) {
            shown.add(text);
        }
    }

    /** The methods that are not of the face but bear the name of one that is. */
    private static Set<String> doubled(Class<?> pair) {
        Set<String> names = new TreeSet<>();
        for (Method method : ThreeLinkPair.class.getDeclaredMethods()) {
            note(names, method, method.getName());
        }
        Set<String> doubled = new TreeSet<>();
        for (Method method : pair.getDeclaredMethods()) {
            boolean ofTheFace = pair == ThreeLinkPair.class && Modifier.isPublic(method.getModifiers());
            if (!ofTheFace && names.contains(method.getName())) {
                doubled.add(method.toString());
            }
        }
        return doubled;
    }
}
