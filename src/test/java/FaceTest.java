import java.lang.reflect.Constructor;
import java.lang.reflect.Field;
import java.lang.reflect.Method;
import java.lang.reflect.Modifier;
import java.util.Arrays;
import java.util.Set;
import java.util.TreeSet;

/** The face of the class is the document's, and nothing else can be seen of it. */
public final class FaceTest {
    private static final String[] METHODS = {
        "int write(int, long)", "int wipe()", "int fault()", "int lay(int)",
        "long number(int, int, int)", "long sum(int, int, int)", "int shape(int, int, int)",
        "int rest(int, int, int, int)", "long times(int, int, int, int)",
        "int undoes(int, int, int)", "long back(int, int, int)", "int parting(int, int, int)",
        "int partRank(int, int)", "int orders(int, int, int, int)", "int mark(int, int, int)",
        "int rank(int, int)", "int over(int, int)", "int behind(int, int, int)",
        "int base(int, int)", "long set(int, int, long)", "long coefficient(int, int)",
        "int told(int, int)", "int turn(int, int)", "long value(int, int, int)",
        "int sumUp(int)", "int root(int, int)", "int count(int)",
    };

    public static void main(String[] args) {
        Class<?> face = CountTriangles.class;
        Due.due("public final class",
                Modifier.isPublic(face.getModifiers()) && Modifier.isFinal(face.getModifiers()));
        methods(face);
        fields(face);
        for (Constructor<?> made : face.getDeclaredConstructors()) {
            Due.due("constructor " + made,
                    Modifier.isPublic(made.getModifiers()) && made.getParameterCount() == 0);
        }
        for (Class<?> inside : face.getDeclaredClasses()) {
            int how = inside.getModifiers();
            Due.due("class " + inside, Modifier.isStatic(how)
                    && !Modifier.isPublic(how) && !Modifier.isProtected(how));
        }
        Due.end();
    }

    private static void methods(Class<?> face) {
        Set<String> wanted = new TreeSet<>(Arrays.asList(METHODS));
        Set<String> names = new TreeSet<>();
        for (String method : METHODS) {
            names.add(method.substring(method.indexOf(' ') + 1, method.indexOf('(')));
        }
        Set<String> seen = new TreeSet<>();
        for (Method method : face.getDeclaredMethods()) {
            if (method.isSynthetic()) {
                continue;
            }
            if (Modifier.isPrivate(method.getModifiers())) {
                Due.due("a private " + method.getName(), !names.contains(method.getName()));
            } else {
                String told = method.toString().replace("CountTriangles.", "").replace(",", ", ");
                seen.add(told.replace("public ", ""));
            }
        }
        if (!seen.equals(wanted)) {
            System.out.println("seen " + seen + ", due " + wanted);
        }
        Due.due("methods of the face", seen.equals(wanted));
    }

    private static void fields(Class<?> face) {
        Set<String> seen = new TreeSet<>();
        for (Field field : face.getDeclaredFields()) {
            if (!Modifier.isPrivate(field.getModifiers())) {
                seen.add(field.toString());
            }
        }
        Set<String> wanted = new TreeSet<>();
        for (String name : new String[] {"BAD", "NO", "FULL", "NONE"}) {
            wanted.add("public static final int CountTriangles." + name);
        }
        Due.due("fields of the face", seen.equals(wanted));
        Due.due("BAD", CountTriangles.BAD, -1);
        Due.due("NO", CountTriangles.NO, -2);
        Due.due("FULL", CountTriangles.FULL, -3);
        Due.due("NONE", CountTriangles.NONE, -4);
    }
}
