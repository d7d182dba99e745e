import java.lang.reflect.Constructor;
import java.lang.reflect.Field;
import java.lang.reflect.Method;
import java.lang.reflect.Modifier;
import java.nio.file.Files;
import java.nio.file.Path;
import java.util.Set;
import java.util.TreeSet;

/** The face of the class is the document's, and nothing else can be seen of it. */
public final class FaceTest {
    private static final Path SOURCE = Path.of("src/main/java/CountTriangles.java");
    private static final String CONSTANTS = "public static final int BAD = -1, NO = -2, FULL = -3, NONE = -4;";
    private static final String CONSTRUCTOR = "public CountTriangles();";
    private static final String[] LAWS = {
        "int write(int n, long v)", "int wipe()", "int fault()", "int lay(int l)",
        "long number(int l, int n, int k)", "long sum(int l, int n, int what)", "int shape(int l, int n, int what)",
        "int rest(int l, int n, int k, int m)", "long times(int a, int b, int n, int k)",
        "int undoes(int a, int b, int n)", "long back(int a, int n, int k)",
    };
    private static final String[] COUNTED = {
        "int parting(int n, int k, int i)", "int partRank(int n, int row)",
        "int orders(int n, int mark, int v, int i)", "int mark(int n, int order, int mark)",
        "int rank(int n, int order)", "int over(int n, int order)", "int behind(int n, int a, int b)",
    };
    private static final String[] POLYNOMIALS = {
        "int base(int p, int base)", "long set(int p, int k, long v)", "long coefficient(int p, int k)",
        "int told(int p, int what)", "int turn(int p, int base)", "long value(int p, int x, int j)",
        "int sumUp(int p)", "int root(int p, int i)", "int count(int what)",
    };

    public static void main(String[] args) throws Exception {
        Class<?> face = CountTriangles.class;
        Due.due("public final class",
                Modifier.isPublic(face.getModifiers()) && Modifier.isFinal(face.getModifiers()));
        Due.due("extends nothing", face.getSuperclass() == Object.class && face.getInterfaces().length == 0);
        document();
        methods(face);
        constants(face);
        constructor(face);
        classesInside(face);
        heads(Files.readString(SOURCE));
        Due.end();
    }

    private static Set<String> all() {
        Set<String> all = new TreeSet<>();
        for (String[] part : new String[][] {LAWS, COUNTED, POLYNOMIALS}) {
            for (String method : part) {
                all.add(method);
            }
        }
        return all;
    }

    /** What this test asks for is what the document shows, line by line. */
    private static void document() {
        StringBuilder shown = new StringBuilder("public final class CountTriangles { ");
        shown.append(CONSTANTS).append(' ').append(CONSTRUCTOR);
        for (String[] part : new String[][] {LAWS, COUNTED, POLYNOMIALS}) {
            for (String method : part) {
                shown.append(" public ").append(method).append(';');
            }
        }
        Due.due("the document's face", Doc.says(shown.append(" }").toString()));
    }

    private static Set<String> names() {
        Set<String> names = new TreeSet<>();
        for (String method : all()) {
            names.add(nameOf(method));
        }
        return names;
    }

    private static String nameOf(String method) {
        return method.substring(method.indexOf(' ') + 1, method.indexOf('('));
    }

    private static void methods(Class<?> face) {
        Set<String> wanted = new TreeSet<>();
        for (String method : all()) {
            wanted.add("public " + method.replaceAll(" \\w+([,)])", "$1").replace(", ", ","));
        }
        Set<String> seen = new TreeSet<>();
        for (Method method : face.getDeclaredMethods()) {
            if (method.isSynthetic()) {
                continue;
            }
            if (Modifier.isPrivate(method.getModifiers())) {
                Due.due("a private " + method.getName(), !names().contains(method.getName()));
            } else {
                seen.add(method.toString().replace("CountTriangles.", ""));
            }
        }
        for (String method : wanted) {
            Due.due("is there: " + method, seen.contains(method));
        }
        for (String method : seen) {
            Due.due("is due: " + method, wanted.contains(method));
        }
    }

    private static void constants(Class<?> face) throws ReflectiveOperationException {
        Set<String> seen = new TreeSet<>();
        for (Field field : face.getDeclaredFields()) {
            if (!Modifier.isPrivate(field.getModifiers())) {
                seen.add(field.toString());
            }
        }
        Set<String> wanted = new TreeSet<>();
        for (String name : new String[] {"BAD", "NO", "FULL", "NONE"}) {
            wanted.add("public static final int CountTriangles." + name);
        }
        Due.due("fields of the face " + seen, seen.equals(wanted));
        if (!seen.containsAll(wanted)) {
            return;
        }
        constant(face, "BAD", -1);
        constant(face, "NO", -2);
        constant(face, "FULL", -3);
        constant(face, "NONE", -4);
    }

    /** Asked of the class itself: the compiler would put the value it knew into this test. */
    private static void constant(Class<?> face, String name, int want) throws ReflectiveOperationException {
        Due.due(name, face.getDeclaredField(name).getInt(null), want);
    }

    private static void constructor(Class<?> face) {
        Constructor<?>[] made = face.getDeclaredConstructors();
        Due.due("constructors", made.length, 1);
        Due.due("its constructor", made[0].toString().equals("public CountTriangles()"));
    }

    private static void classesInside(Class<?> face) {
        for (Class<?> inside : face.getDeclaredClasses()) {
            int how = inside.getModifiers();
            Due.due("class " + inside, Modifier.isStatic(how)
                    && !Modifier.isPublic(how) && !Modifier.isProtected(how));
            for (Method method : inside.getDeclaredMethods()) {
                Due.due("inside, a private " + method.getName(),
                        !Modifier.isPrivate(method.getModifiers()) || !names().contains(method.getName()));
            }
        }
    }

    /** Each part's calls stand behind what the interface says ahead of them, in the document's order. */
    private static void heads(String source) {
        int from = part(source, "laws", LAWS, 0);
        from = part(source, "what is counted", COUNTED, from);
        part(source, "polynomials", POLYNOMIALS, from);
    }

    private static int part(String source, String head, String[] methods, int from) {
        StringBuilder told = new StringBuilder("Ahead of the calls ");
        int at = source.indexOf("// ---- " + head + "\n", from);
        Due.due("---- " + head, at >= from);
        for (String method : methods) {
            told.append('`').append(nameOf(method)).append("`, ");
            int next = source.indexOf("public " + method + " {", Math.max(at, 0));
            Due.due(method + " behind ---- " + head, next > at);
            at = Math.max(at, next);
        }
        told.setLength(told.length() - 2);
        Due.due("the document's words on ---- " + head,
                Doc.says(told.append(" the interface says: ---- ").append(head).append('.').toString()));
        return at;
    }
}
