import java.lang.reflect.Field;
import java.lang.reflect.Member;
import java.lang.reflect.Method;
import java.lang.reflect.Modifier;
import java.util.Arrays;
import java.util.Set;
import java.util.TreeSet;

/** The public face: the constants, the constructor and the methods of the document, and no more. */
public final class FaceTest {
    /** Behind a method's parameters: I, A and S for the exceptions of its throws clause, in its order. */
    private static final Set<String> FACE = new TreeSet<>(Arrays.asList(
            "int NONE", "int LEG", "int CONTROL", "int STAGE", "int NUMBERS", "int RANK", "int REVERSED",
            "int item[int, int]AS", "int open[int, int]IAS", "int starts[int, int]IA", "int due[int, int]IA",
            "int stamp[int, int, int]IAS", "int delay[int, int, int]IAS", "void finish[int, int, boolean, int]IAS",
            "int held[int, int, boolean]IAS", "int award[int, int, int]IAS", "int time[int, int]IA",
            "int allocate[int, int]IAS", "int seen[int, int]IA", "void retire[int, boolean]IS",
            "int car[int, int]IA", "int totalAnew[int]I", "int ranked[int]A", "int close[]S", "int points[int]I",
            "int table[int]A"));

    public static void main(String[] args) {
        Check check = new Check();
        check.promise("the face");
        check.same("NONE", RallyCard.NONE, -1);
        check.same("LEG", RallyCard.LEG, 0);
        check.same("CONTROL", RallyCard.CONTROL, 1);
        check.same("STAGE", RallyCard.STAGE, 2);
        check.same("NUMBERS", RallyCard.NUMBERS, 0);
        check.same("RANK", RallyCard.RANK, 1);
        check.same("REVERSED", RallyCard.REVERSED, 2);

        Set<String> found = new TreeSet<>();
        for (Field field : RallyCard.class.getDeclaredFields()) {
            if (isOfFace(field)) {
                found.add(field.getType().getSimpleName() + " " + field.getName());
                check.same(field.getName() + " is a constant",
                        field.getModifiers(), Modifier.PUBLIC | Modifier.STATIC | Modifier.FINAL);
            }
        }
        for (Method method : RallyCard.class.getDeclaredMethods()) {
            if (isOfFace(method)) {
                found.add(method.getReturnType().getSimpleName() + " " + method.getName()
                        + parameters(method) + exceptions(method));
            }
        }
        if (!found.equals(FACE)) {
            System.out.println("the face is " + found);
        }
        check.same("as in the document", found.equals(FACE) ? 1 : 0, 1);
        check.same("one constructor", RallyCard.class.getDeclaredConstructors().length, 1);
        check.same("public and final", RallyCard.class.getModifiers(), Modifier.PUBLIC | Modifier.FINAL);
        check.end();
    }

    private static boolean isOfFace(Member member) {
        return !Modifier.isPrivate(member.getModifiers()) && !member.isSynthetic();
    }

    private static String parameters(Method method) {
        return Arrays.asList(method.getParameterTypes()).toString();
    }

    private static String exceptions(Method method) {
        StringBuilder letters = new StringBuilder();
        for (Class<?> exception : method.getExceptionTypes()) {
            letters.append(exception == Check.INDEX ? 'I' : exception == Check.ARGUMENT ? 'A'
                    : exception == Check.STATE ? 'S' : '?');
        }
        return letters.toString();
    }
}
