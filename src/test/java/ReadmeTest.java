import java.io.IOException;
import java.lang.reflect.InvocationTargetException;
import java.lang.reflect.Method;
import java.nio.file.Files;
import java.nio.file.Path;
import java.util.HashSet;
import java.util.Set;
import java.util.regex.Matcher;
import java.util.regex.Pattern;

/** The calls of README.md's example answer what stands behind them there, and each method of the face is among them. */
public final class ReadmeTest {
    private static final Pattern MADE = Pattern.compile("x = new EthernetGates\\((\\d+)\\);");
    private static final Pattern CALL = Pattern.compile("(?m)^x\\.(\\w+)\\(([^)]*)\\); +// (-?\\d+)");

    public static void main(String[] args) throws IOException, ReflectiveOperationException {
        Check c = new Check();
        String text = Files.readString(Path.of("README.md"));
        Matcher made = MADE.matcher(text);
        c.isTrue("an object is made", made.find());
        EthernetGates x = new EthernetGates(Integer.parseInt(made.group(1)));
        Set<String> called = new HashSet<>();
        Matcher call = CALL.matcher(text);
        while (call.find()) {
            called.add(call.group(1));
            c.due(call.group(), answer(x, call.group(1), call.group(2).split(", *")), Long.parseLong(call.group(3)));
        }
        c.due("the number of methods that are called", called.size(), 12);
        c.end();
    }

    private static long answer(EthernetGates x, String name, String[] written)
            throws IllegalAccessException, InvocationTargetException {
        for (Method m : EthernetGates.class.getMethods()) {
            if (m.getName().equals(name)) {
                Object[] arguments = new Object[m.getParameterCount()];
                for (int i = 0; i < arguments.length; i++) {
                    long value = Long.parseLong(written[i]);
                    if (m.getParameterTypes()[i] == int.class) {
                        arguments[i] = (int) value;
                    } else {
                        arguments[i] = value;
                    }
                }
                return (int) m.invoke(x, arguments);
            }
        }
        throw new IllegalArgumentException("there is no " + name);
    }
}
