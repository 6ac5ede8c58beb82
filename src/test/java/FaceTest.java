import java.lang.reflect.Constructor;
import java.lang.reflect.Field;
import java.lang.reflect.Method;
import java.lang.reflect.Modifier;
import java.util.Arrays;
import java.util.List;
import java.util.Set;
import java.util.TreeSet;

/** The public face is that of the document, and no other member is visible (rule 1 of LANGUAGE.md). */
public final class FaceTest {
    private static final List<String> FACE = List.of(
            "int open()",
            "boolean touch(int, int, int, int)",
            "int prepare(int, int, boolean)",
            "int decide(int, boolean)",
            "int timeout(int, boolean)",
            "int finish(int, int)",
            "int vote(int, int)",
            "int outcome(int)",
            "long result(int, int)",
            "boolean crash(int, int)",
            "boolean restart(int, int)",
            "int elect(int)",
            "boolean halt()",
            "boolean resume()",
            "int leader(int)",
            "int view(int, int)",
            "int length(int, int)",
            "int executed(int, int)",
            "int value(int, int)",
            "int holds(int, int)");

    private static final Due DUE = new Due();

    public static void main(String[] args) {
        DUE.part("face");
        Class<?> face = CommitGroups.class;
        DUE.yes("public and final", Modifier.isPublic(face.getModifiers()) && Modifier.isFinal(face.getModifiers()));
        methods(face);
        fields(face);
        Constructor<?>[] constructors = face.getDeclaredConstructors();
        DUE.same("constructors", constructors.length, 1);
        DUE.yes("public constructor without parameters",
                Modifier.isPublic(constructors[0].getModifiers()) && constructors[0].getParameterCount() == 0);
        classes(face);
        DUE.end();
    }

    private static void methods(Class<?> face) {
        Set<String> visible = new TreeSet<>();
        Set<String> names = new TreeSet<>();
        for (Method method : face.getDeclaredMethods()) {
            if (!Modifier.isPrivate(method.getModifiers())) {
                visible.add(told(method));
                names.add(method.getName());
                DUE.yes(told(method) + " public, not static",
                        Modifier.isPublic(method.getModifiers()) && !Modifier.isStatic(method.getModifiers()));
            }
        }
        DUE.yes("methods " + visible, visible.equals(new TreeSet<>(FACE)));
        for (Method method : face.getDeclaredMethods()) {
            if (Modifier.isPrivate(method.getModifiers())) {
                DUE.no("private " + method.getName() + " named like a public one", names.contains(method.getName()));
            }
        }
    }

    private static String told(Method method) {
        String parameters = Arrays.toString(method.getParameterTypes());
        return method.getReturnType() + " " + method.getName()
                + "(" + parameters.substring(1, parameters.length() - 1) + ")";
    }

    private static void fields(Class<?> face) {
        for (Field field : face.getDeclaredFields()) {
            boolean constant = field.getName().equals("NONE");
            DUE.yes(field.getName() + " public or private",
                    constant ? Modifier.isPublic(field.getModifiers()) : Modifier.isPrivate(field.getModifiers()));
            if (Modifier.isStatic(field.getModifiers())) {
                DUE.yes(field.getName() + " final", Modifier.isFinal(field.getModifiers()));
            }
        }
        DUE.same("NONE", CommitGroups.NONE, 1L << 40);
    }

    private static void classes(Class<?> face) {
        for (Class<?> inside : face.getDeclaredClasses()) {
            DUE.yes(inside.getName() + " static", Modifier.isStatic(inside.getModifiers()));
            DUE.no(inside.getName() + " visible",
                    Modifier.isPublic(inside.getModifiers()) || Modifier.isProtected(inside.getModifiers()));
        }
    }
}
