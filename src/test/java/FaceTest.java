import java.lang.reflect.Constructor;
import java.lang.reflect.Field;
import java.lang.reflect.Member;
import java.lang.reflect.Method;
import java.lang.reflect.Modifier;
import java.util.ArrayList;
import java.util.Arrays;
import java.util.HashSet;
import java.util.List;
import java.util.Set;
import java.util.TreeSet;

/** The public face, and the constants. */
public final class FaceTest {
    private static final String[] FACE = {
        "int addLeaf(int,int)", "int prune(int)", "int graft(int,int)", "int setLength(int,int)",
        "int type(char)", "int clearText()", "int grow(int)", "int undo()", "int keep()", "int restore()",
        "int ancestor(int,int)", "int looks(int,int)", "int jump(int,int)", "int ladderAt(int,int)",
        "int node(int,int)", "int meeting(int,int)", "int wayAt(int,int,int)", "float real(int,int)",
        "float distance(int,int)", "int reach(int,int)", "int farthest(int)", "int apart(int)",
        "int shape(int)", "int alike(int)", "int tableAt(int)", "int count(int)",
    };

    public static void main(String[] args) {
        Due.is("UNKNOWN", AncestorLooks.UNKNOWN, -1);
        Due.is("BAD_VALUE", AncestorLooks.BAD_VALUE, -2);
        Due.is("FULL", AncestorLooks.FULL, -3);
        Due.is("NOT_POSSIBLE", AncestorLooks.NOT_POSSIBLE, -4);
        Due.is("NONE", AncestorLooks.NONE, -5);
        Class<?> face = AncestorLooks.class;
        Due.holds("the class is public and final", Modifier.isPublic(face.getModifiers()) && Modifier.isFinal(face.getModifiers()));
        methods(face);
        fields(face);
        Constructor<?>[] made = face.getDeclaredConstructors();
        Due.holds("one public constructor without parameters",
                made.length == 1 && made[0].getParameterCount() == 0 && Modifier.isPublic(made[0].getModifiers()));
        for (Class<?> inside : face.getDeclaredClasses()) {
            Due.holds(inside + " is static and not public",
                    Modifier.isStatic(inside.getModifiers()) && !Modifier.isPublic(inside.getModifiers()));
        }
        Due.end();
    }

    private static void methods(Class<?> face) {
        Set<String> shown = new TreeSet<>();
        Set<String> names = new HashSet<>();
        List<Method> hidden = new ArrayList<>();
        for (Method method : face.getDeclaredMethods()) {
            if (isHidden(method)) {
                hidden.add(method);
                continue;
            }
            List<String> parameters = new ArrayList<>();
            for (Class<?> parameter : method.getParameterTypes()) {
                parameters.add(parameter.getName());
            }
            Due.holds(method + " is public and not static",
                    Modifier.isPublic(method.getModifiers()) && !Modifier.isStatic(method.getModifiers()));
            shown.add(method.getReturnType().getName() + " " + method.getName() + "(" + String.join(",", parameters) + ")");
            names.add(method.getName());
        }
        Due.holds("the methods are those of the document: " + shown, shown.equals(new TreeSet<>(Arrays.asList(FACE))));
        for (Method method : hidden) {
            Due.holds(method + " bears no public name", !names.contains(method.getName()));
        }
    }

    private static void fields(Class<?> face) {
        Set<String> shown = new TreeSet<>();
        for (Field field : face.getDeclaredFields()) {
            if (!isHidden(field)) {
                shown.add(field.getName());
            }
        }
        Due.holds("the constants are those of the document: " + shown,
                shown.equals(new TreeSet<>(Arrays.asList("UNKNOWN", "BAD_VALUE", "FULL", "NOT_POSSIBLE", "NONE"))));
    }

    private static boolean isHidden(Member member) {
        return Modifier.isPrivate(member.getModifiers());
    }
}
