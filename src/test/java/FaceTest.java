import java.lang.reflect.Constructor;
import java.lang.reflect.Field;
import java.lang.reflect.Method;
import java.lang.reflect.Modifier;
import java.util.Set;
import java.util.TreeSet;

/** The class shows the document's face and no member more (LANGUAGE.md, rules 1 and 5). */
public final class FaceTest {
    private static final String[] FACE = {
        "int barred(int)", "int clear()", "int cost(int,int)", "int drop(int)", "int factor(int,int,int)",
        "int isWhole()", "int name(int,int)", "int right(int,int)", "int row(int,int)", "int run()",
        "int span(int,int,int)", "int tight(int)", "int told(int)", "int whole()", "int wholeValue(int)",
        "long far(int,int,int)", "long least(int)", "long reach(int,int,int)", "long value(int,int)"};

    public static void main(String[] args) {
        Due due = new Due();
        Set<String> seen = new TreeSet<>();
        Set<String> publicNames = new TreeSet<>();
        for (Method method : ExactSimplex.class.getDeclaredMethods()) {
            if (!Modifier.isPrivate(method.getModifiers()) && !method.isSynthetic()) {
                seen.add(describe(method));
                publicNames.add(method.getName());
                due.equal(method + " is public", Modifier.isPublic(method.getModifiers()) ? 1 : 0, 1);
            }
        }
        due.equal("the methods are those of the document: " + seen, seen.equals(Set.of(FACE)) ? 1 : 0, 1);
        due.equal("final", Modifier.isFinal(ExactSimplex.class.getModifiers()) ? 1 : 0, 1);
        Constructor<?>[] constructors = ExactSimplex.class.getDeclaredConstructors();
        due.equal("constructors", constructors.length, 1);
        due.equal("its parameters", constructors[0].getParameterCount(), 0);
        for (Field field : ExactSimplex.class.getDeclaredFields()) {
            due.equal(field + " is private", Modifier.isPrivate(field.getModifiers()) ? 1 : 0, 1);
            due.equal(field + " is final", Modifier.isFinal(field.getModifiers()) ? 1 : 0, 1);
        }
        checkInside(due, publicNames);
        due.finish();
    }

    static String describe(Method method) {
        StringBuilder text = new StringBuilder(method.getReturnType() + " " + method.getName() + "(");
        for (int k = 0; k < method.getParameterCount(); k++) {
            text.append(k == 0 ? "" : ",").append(method.getParameterTypes()[k]);
        }
        return text.append(')').toString();
    }

    private static void checkInside(Due due, Set<String> publicNames) {
        for (Class<?> inside : ExactSimplex.class.getDeclaredClasses()) {
            due.equal(inside + " is static", Modifier.isStatic(inside.getModifiers()) ? 1 : 0, 1);
            due.equal(inside + " is not public", Modifier.isPublic(inside.getModifiers()) ? 1 : 0, 0);
            due.equal(inside + " has at most twenty fields", inside.getDeclaredFields().length > 20 ? 1 : 0, 0);
            for (Method method : inside.getDeclaredMethods()) {
                due.equal(method + " bears a name of the face", publicNames.contains(method.getName()) ? 1 : 0, 0);
            }
        }
    }
}
