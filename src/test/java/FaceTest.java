import java.lang.reflect.Constructor;
import java.lang.reflect.Field;
import java.lang.reflect.Method;
import java.lang.reflect.Modifier;
import java.util.Arrays;
import java.util.TreeSet;

/** The class has the document's face and no other member that can be seen. */
public final class FaceTest {
    private static final String[] FACE = {
        "link(int,long)", "gate(int,int,long,long)", "cycle(long) throws java.lang.ArithmeticException",
        "frame(int,int,int,int)", "run(long)", "left(int,int)", "learn(int,int,long)",
        "credit(int,int,long,long)", "filter(int,long)", "clock(int,long)", "dropped(int)", "service(int,int)"
    };

    public static void main(String[] args) {
        Check c = new Check();
        Class<?> face = EthernetGates.class;
        c.isTrue("public and final", Modifier.isPublic(face.getModifiers()) && Modifier.isFinal(face.getModifiers()));
        TreeSet<String> seen = new TreeSet<>();
        for (Method m : face.getDeclaredMethods()) {
            if (!Modifier.isPrivate(m.getModifiers())) {
                c.isTrue(m + " is public, not static, and answers an int",
                        m.getModifiers() == Modifier.PUBLIC && m.getReturnType() == int.class);
                seen.add(written(m));
            }
        }
        c.isTrue("the methods are " + seen, seen.equals(new TreeSet<>(Arrays.asList(FACE))));
        Constructor<?>[] made = face.getDeclaredConstructors();
        c.isTrue("one public constructor of an int", made.length == 1 && Modifier.isPublic(made[0].getModifiers())
                && Arrays.equals(made[0].getParameterTypes(), new Class<?>[] {int.class}));
        for (Field f : face.getDeclaredFields()) {
            c.isTrue(f + " is private", Modifier.isPrivate(f.getModifiers()));
            c.isTrue(f + " is final, if static",
                    !Modifier.isStatic(f.getModifiers()) || Modifier.isFinal(f.getModifiers()));
        }
        for (Class<?> inside : face.getDeclaredClasses()) {
            c.isTrue(inside + " is private and static", Modifier.isPrivate(inside.getModifiers())
                    && Modifier.isStatic(inside.getModifiers()));
        }
        c.end();
    }

    private static String written(Method m) {
        StringBuilder text = new StringBuilder(m.getName()).append('(');
        for (Class<?> type : m.getParameterTypes()) {
            text.append(text.charAt(text.length() - 1) == '(' ? "" : ",").append(type.getName());
        }
        text.append(')');
        for (Class<?> type : m.getExceptionTypes()) {
            text.append(" throws ").append(type.getName());
        }
        return text.toString();
    }
}
