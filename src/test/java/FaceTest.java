import java.lang.reflect.Constructor;
import java.lang.reflect.Field;
import java.lang.reflect.Method;
import java.lang.reflect.Modifier;
import java.util.Arrays;
import java.util.Set;
import java.util.TreeSet;
import java.util.stream.Collectors;

/** The public face is the document's, and nothing else of the class can be seen. */
public final class FaceTest {
    private static final String INDEX = "IndexOutOfBoundsException";
    private static final String TURN = "IllegalStateException";
    private static final String RANGE = "IllegalArgumentException";
    private static final String MEANING = "UnsupportedOperationException";

    private static final Set<String> FACE = new TreeSet<>(Arrays.asList(
            "CraneTurns() throws",
            "void track(int,int,int,int) throws " + TURN + "," + RANGE,
            "void crane(int,int,int,int) throws " + INDEX + "," + TURN + "," + RANGE + "," + MEANING,
            "int job(int,int,int) throws " + TURN + "," + RANGE + "," + MEANING,
            "void give(int,int) throws " + INDEX + "," + TURN + "," + MEANING,
            "void take(int) throws " + INDEX + "," + TURN,
            "void broken(int,boolean) throws " + INDEX + "," + TURN,
            "int run(int) throws " + TURN + "," + RANGE,
            "int at(int,int) throws " + INDEX,
            "int state(int,int) throws " + INDEX,
            "int near() throws",
            "int plan(int) throws " + TURN + "," + RANGE + "," + MEANING,
            "int planned(int) throws " + INDEX));

    public static void main(String[] args) {
        Class<?> face = CraneTurns.class;
        Set<String> seen = new TreeSet<>();
        Set<String> publicNames = new TreeSet<>();
        Set<String> privateNames = new TreeSet<>();
        for (Constructor<?> c : face.getDeclaredConstructors()) {
            seen.add("CraneTurns" + tail(c.getParameterTypes(), c.getExceptionTypes()));
        }
        for (Method m : face.getDeclaredMethods()) {
            boolean isPublic = Modifier.isPublic(m.getModifiers());
            (isPublic ? publicNames : privateNames).add(m.getName());
            if (!Modifier.isPrivate(m.getModifiers())) {
                seen.add(m.getReturnType().getSimpleName() + " " + m.getName()
                        + tail(m.getParameterTypes(), m.getExceptionTypes()));
            }
        }
        for (Field f : face.getDeclaredFields()) {
            if (!Modifier.isPrivate(f.getModifiers())) {
                seen.add("field " + f.getName());
            }
        }
        privateNames.retainAll(publicNames);
        boolean isPublicFinal = face.getModifiers() == (Modifier.PUBLIC | Modifier.FINAL);
        if (!isPublicFinal || !seen.equals(FACE) || !privateNames.isEmpty()) {
            System.out.println("the face is " + seen + ", due is " + FACE
                    + "; private methods named as public ones: " + privateNames
                    + "; public and final: " + isPublicFinal);
            System.exit(1);
        }
        System.out.println("the face is as due");
    }

    private static String tail(Class<?>[] parameters, Class<?>[] exceptions) {
        return ("(" + names(parameters) + ") throws " + names(exceptions)).trim();
    }

    private static String names(Class<?>[] classes) {
        return Arrays.stream(classes).map(Class::getSimpleName).collect(Collectors.joining(","));
    }
}
