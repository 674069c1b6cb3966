import java.lang.reflect.Field;
import java.lang.reflect.Member;
import java.lang.reflect.Method;
import java.lang.reflect.Modifier;
import java.util.Arrays;
import java.util.Set;
import java.util.TreeSet;

/** The public face: the constants, the constructor and the methods of the document, and no more. */
public final class FaceTest {
    private static final Set<String> FACE = new TreeSet<>(Arrays.asList(
            "int NONE", "int LEG", "int CONTROL", "int STAGE", "int NUMBERS", "int RANK", "int REVERSED",
            "int item[int, int]", "int open[int, int]", "int starts[int, int]", "int due[int, int]",
            "int stamp[int, int, int]", "int delay[int, int, int]", "void finish[int, int, boolean, int]",
            "int held[int, int, boolean]", "int award[int, int, int]", "int time[int, int]",
            "int allocate[int, int]", "int seen[int, int]", "void retire[int, boolean]", "int car[int, int]",
            "int totalAnew[int]", "int ranked[int]", "int close[]", "int points[int]", "int table[int]"));

    public static void main(String[] args) {
        Check check = new Check();
        check.promise("the face");
        check.same("NONE", RallyCard.NONE, -1);
        check.same("LEG", RallyCard.LEG, 0);
        check.same("CONTROL", RallyCard.CONTROL, 1);
        check.same("STAGE", RallyCard.STAGE, 2);
        check.same("NUMBERS", RallyCard.NUMBERS, 0);
        check.same("RANK", RallyCard.RANK, 1);
        check.same("REVERSED", RallyCard.REVERSED, 2);

        Set<String> found = new TreeSet<>();
        for (Field field : RallyCard.class.getDeclaredFields()) {
            if (isOfFace(field)) {
                found.add(field.getType().getSimpleName() + " " + field.getName());
                check.same(field.getName() + " is a constant",
                        field.getModifiers(), Modifier.PUBLIC | Modifier.STATIC | Modifier.FINAL);
            }
        }
        for (Method method : RallyCard.class.getDeclaredMethods()) {
            if (isOfFace(method)) {
                found.add(method.getReturnType().getSimpleName() + " " + method.getName() + parameters(method));
            }
        }
        if (!found.equals(FACE)) {
            System.out.println("the face is " + found);
        }
        check.same("as in the document", found.equals(FACE) ? 1 : 0, 1);
        check.same("one constructor", RallyCard.class.getDeclaredConstructors().length, 1);
        check.same("public and final", RallyCard.class.getModifiers(), Modifier.PUBLIC | Modifier.FINAL);
        readme(check);
        check.end();
    }

    private static boolean isOfFace(Member member) {
        return !Modifier.isPrivate(member.getModifiers()) && !member.isSynthetic();
    }

    private static String parameters(Method method) {
        return Arrays.asList(method.getParameterTypes()).toString();
    }

    /** What README.md shows of its use. */
    private static void readme(Check check) {
        check.promise("README.md");
        RallyCard rally = Rallies.oneStage();
        check.same("stamp", rally.stamp(0, 0, rally.due(0, 0)), 0);
        check.same("stamp", rally.stamp(0, 1, 17), 200);
        rally.finish(0, 2, true, 13500);
        check.same("time", rally.time(0, 2), 1500);
        check.same("total", rally.car(0, 4), 1700);
        check.same("ranked", rally.ranked(0), 0);
        check.same("close", rally.close(), 1);
        check.same("points", rally.points(0), 25);
    }
}
