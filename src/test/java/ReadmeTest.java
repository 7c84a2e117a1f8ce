import java.lang.reflect.Method;
import java.nio.file.Files;
import java.nio.file.Path;
import java.util.TreeSet;
import java.util.regex.Matcher;
import java.util.regex.Pattern;

/** The answers that README.md tells, in their order on one object; each call of the face stands there. */
public final class ReadmeTest {
    private static final Pattern CALL = Pattern.compile("(?m)^x\\.(\\w+)\\(([^)]*)\\); +// (-?\\d+)");

    public static void main(String[] args) throws Exception {
        String readme = Files.readString(Path.of(args.length > 0 ? args[0] : ".", "README.md"));
        SumChains x = new SumChains();
        TreeSet<String> shown = new TreeSet<>();
        Matcher calls = CALL.matcher(readme);
        while (calls.find()) {
            shown.add(calls.group(1));
            long got = answer(x, calls.group(1), calls.group(2));
            Check.due(calls.group(1) + "(" + calls.group(2) + ")", got, Long.parseLong(calls.group(3)));
        }
        for (Method method : SumChains.class.getMethods()) {
            boolean own = method.getDeclaringClass() == SumChains.class;
            Check.holds(method.getName() + " stands in README.md", !own || shown.contains(method.getName()));
        }
        Check.end();
    }

    private static long answer(SumChains x, String name, String written) throws Exception {
        String[] parts = written.isEmpty() ? new String[0] : written.split(", ");
        for (Method method : SumChains.class.getMethods()) {
            if (method.getName().equals(name)) {
                Object[] arguments = new Object[parts.length];
                for (int i = 0; i < parts.length; i++) {
                    long value = Long.decode(parts[i].replace("L", ""));
                    boolean wide = method.getParameterTypes()[i] == long.class;
                    arguments[i] = wide ? (Object) value : (Object) (int) value;
                }
                return (Integer) method.invoke(x, arguments);
            }
        }
        return Long.MIN_VALUE;
    }
}
