import java.lang.reflect.Field;
import java.lang.reflect.Method;
import java.lang.reflect.Modifier;
import java.nio.file.Files;
import java.nio.file.Path;
import java.util.TreeSet;
import java.util.regex.Pattern;

/** The public face, promise 1, and what LANGUAGE.md forbids that can be seen in the source. */
public final class FaceTest {
    private static final String[] METHODS = {
        "fewest(int,int)", "asFew(int,int)", "first(int,int,int)", "hardest(int,int)", "goal(int)", "noGoals()",
        "together()", "led(int,int)", "road(int,int,int)", "step(int,int,int,int)", "good(int,int,int)",
        "price(int,int)", "cheapest(int)", "write(int,long)", "wipe()", "fault(int)", "take(int)", "chain(int)",
        "uses(int)", "drawers()", "power(int,int)", "count(int)"};
    private static final String[] FORBIDDEN = {
        "\\bthrow\\b", "\\btry\\b", "\\bcatch\\b", "\\bassert\\b", "\\bsynchronized\\b", "\\bwhile \\(true\\)", "->",
        "::", "\\bimport\\b", "\\bpackage\\b", "\\bfor \\(;;", "Exact\\(", "[^\\x00-\\x7f]"};

    public static void main(String[] args) throws Exception {
        checkFace();
        checkNewObject();
        checkSource(Path.of(args.length > 0 ? args[0] : ".", "src/main/java/SumChains.java"));
        Check.end();
    }

    private static void checkFace() {
        Class<?> face = SumChains.class;
        Check.holds("public final", Modifier.isPublic(face.getModifiers()) && Modifier.isFinal(face.getModifiers()));
        Check.due("constructors", face.getDeclaredConstructors().length, 1);
        TreeSet<String> due = new TreeSet<>();
        for (String method : METHODS) {
            due.add(method);
        }
        TreeSet<String> seen = new TreeSet<>();
        for (Method method : face.getDeclaredMethods()) {
            if (Modifier.isPrivate(method.getModifiers()) || method.isSynthetic()) {
                continue;
            }
            String text = method.toGenericString();
            Check.holds("answers an int: " + text, method.getReturnType() == int.class);
            seen.add(text.substring(text.indexOf("SumChains.") + "SumChains.".length()));
        }
        Check.holds("methods " + seen + " are " + due, seen.equals(due));
        TreeSet<String> constants = new TreeSet<>();
        for (Field field : face.getDeclaredFields()) {
            if (!Modifier.isPrivate(field.getModifiers())) {
                constants.add(field.getName());
            }
        }
        Check.holds("constants " + constants, constants.toString().equals("[BAD, FULL, NO, NONE]"));
        Check.due("BAD", SumChains.BAD, -1);
        Check.due("NO", SumChains.NO, -2);
        Check.due("FULL", SumChains.FULL, -3);
        Check.due("NONE", SumChains.NONE, -4);
    }

    private static void checkNewObject() {
        SumChains x = new SumChains();
        Check.due("goals at first", x.count(0), 0);
        Check.due("bytes at first", x.count(1), 0);
        Check.due("steps at first", x.count(2), 0);
        Check.due("doublings at first", x.count(3), 0);
        Check.due("together at first", x.together(), 0);
        Check.due("chain(0) at first", x.chain(0), 1);
        Check.due("chain(1) at first", x.chain(1), SumChains.NONE);
        Check.due("uses(0) at first", x.uses(0), 0);
        Check.due("drawers at first", x.drawers(), 1);
        Check.due("power at first", x.power(7, 5), 2);
        Check.due("noGoals at first", x.noGoals(), 0);
        Check.due("wipe at first", x.wipe(), 0);
        Check.due("price of doubling at first", x.price(0, 1), 1);
        Check.due("price of a sum at first", x.price(1, 1), 1);
    }

    private static void checkSource(Path source) throws Exception {
        String code = Files.readString(source).replaceAll("(?s)/\\*.*?\\*/", "").replaceAll("//[^\n]*", "");
        for (String pattern : FORBIDDEN) {
            Check.holds("no " + pattern, !Pattern.compile(pattern).matcher(code).find());
        }
        Pattern state = Pattern.compile("\\bstatic (?!final|int \\w+\\(|boolean \\w+\\()");
        Check.holds("no static state", !state.matcher(code).find());
    }
}
