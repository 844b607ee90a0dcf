import java.io.IOException;
import java.lang.reflect.Method;
import java.lang.reflect.Modifier;
import java.nio.file.Files;
import java.nio.file.Path;
import java.util.List;
import java.util.Set;
import java.util.TreeSet;

/** README.md's example answers what its comments say, and its table has every call of the class, and no other. */
public final class ReadmeTest extends Checks {
    public static void main(String[] args) throws IOException {
        List<String> lines = Files.readAllLines(Path.of("README.md"));
        example(lines);
        table(lines);
        finish();
    }

    private static void example(List<String> lines) {
        about("README.md's example");
        ExactSimplex x = new ExactSimplex();
        int a = x.name(0, 100);
        int b = x.name(0, 100);
        int r = x.row(0, 40);
        x.factor(r, a, 2);
        x.factor(r, b, 1);
        int s = x.row(0, 50);
        x.factor(s, a, 1);
        x.factor(s, b, 3);
        x.cost(a, -3);
        x.cost(b, -2);
        line(lines, "x.run();", x.run() + ":");
        line(lines, "x.least(0); x.least(1);", x.least(0) + " / " + x.least(1) + ":");
        line(lines, "x.value(a, 0); x.value(a, 1);", x.value(a, 0) + " / " + x.value(a, 1) + ":");
        line(lines, "x.far(b, 1, 0); x.far(b, 1, 1);", x.far(b, 1, 0) + " / " + x.far(b, 1, 1) + ":");
        line(lines, "x.tight(r);", x.tight(r) + ":");
        line(lines, "x.whole(); x.wholeValue(a);", x.whole() + ", " + x.wholeValue(a) + ":");
        line(lines, "x.value(2, 0);", x.value(2, 0) + ":");
    }

    /** The line with these calls has a comment that begins with these answers. */
    private static void line(List<String> lines, String calls, String answers) {
        int found = 0;
        for (String line : lines) {
            int comment = line.indexOf("//");
            if (comment >= 0 && line.substring(0, comment).strip().equals(calls)) {
                found++;
                due(line + " // " + answers, line.substring(comment + 2).strip().startsWith(answers) ? 1 : 0, 1);
            }
        }
        due("lines with " + calls, found, 1);
    }

    private static void table(List<String> lines) {
        about("README.md's table");
        Set<String> told = new TreeSet<>();
        for (String line : lines) {
            if (line.startsWith("| `")) {
                told.add(withoutParameterNames(line.substring(3, line.indexOf('`', 3))));
            }
        }
        Set<String> there = new TreeSet<>();
        there.add("ExactSimplex()");
        for (Method method : ExactSimplex.class.getDeclaredMethods()) {
            if (Modifier.isPublic(method.getModifiers())) {
                there.add(FaceTest.describe(method));
            }
        }
        due("calls told " + told + ", calls there " + there, told.equals(there) ? 1 : 0, 1);
    }

    private static String withoutParameterNames(String call) {
        return call.replaceAll("(int|long) \\w+(?=[,)])", "$1").replace(", ", ",");
    }
}
