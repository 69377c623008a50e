import java.lang.reflect.Constructor;
import java.lang.reflect.Field;
import java.lang.reflect.Method;
import java.lang.reflect.Modifier;
import java.util.Arrays;
import java.util.Set;
import java.util.TreeSet;

/** The class shows the document's face, and no member more. */
public final class FaceTest {
    private static final String[] FACE = {
        "public static final int NONE",
        "public CodePruner()",
        "public int block() IllegalStateException",
        "public int add(int,int,int,int,int) NoSuchElementException IllegalArgumentException"
            + " IllegalStateException",
        "public void end(int,int,int,int,int) NoSuchElementException IllegalArgumentException",
        "public void clear()",
        "public int prune() IllegalStateException UnsupportedOperationException",
        "public int count(int)",
        "public int next(int) NoSuchElementException",
        "public boolean depends(int,int) NoSuchElementException",
        "public boolean needed(int) NoSuchElementException",
        "public int ends(int,int) NoSuchElementException",
        "public int run(boolean,int,int) IllegalStateException UnsupportedOperationException",
        "public int ran(int)",
        "public int out(int) NoSuchElementException",
    };

    public static void main(String[] args) {
        Set<String> due = new TreeSet<>(Arrays.asList(FACE));
        Set<String> got = new TreeSet<>();
        for (Field f : CodePruner.class.getDeclaredFields()) {
            if (!Modifier.isPrivate(f.getModifiers())) {
                got.add(Modifier.toString(f.getModifiers()) + " " + f.getType() + " " + f.getName());
            }
        }
        for (Constructor<?> c : CodePruner.class.getDeclaredConstructors()) {
            if (!Modifier.isPrivate(c.getModifiers())) {
                got.add(Modifier.toString(c.getModifiers()) + " CodePruner"
                    + signature(c.getParameterTypes(), c.getExceptionTypes()));
            }
        }
        for (Method m : CodePruner.class.getDeclaredMethods()) {
            if (!Modifier.isPrivate(m.getModifiers())) {
                got.add(Modifier.toString(m.getModifiers()) + " " + m.getReturnType() + " "
                    + m.getName() + signature(m.getParameterTypes(), m.getExceptionTypes()));
            }
        }
        boolean isFinal = Modifier.toString(CodePruner.class.getModifiers()).equals("public final");
        if (!isFinal || !got.equals(due)) {
            System.out.println("the face is " + got + ", due is " + due);
            System.exit(1);
        }
    }

    private static String signature(Class<?>[] parameters, Class<?>[] exceptions) {
        StringBuilder text = new StringBuilder("(");
        for (int i = 0; i < parameters.length; i++) {
            text.append(i == 0 ? "" : ",").append(parameters[i].getName());
        }
        text.append(")");
        for (Class<?> e : exceptions) {
            text.append(" ").append(e.getSimpleName());
        }
        return text.toString();
    }
}
