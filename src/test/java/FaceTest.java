import java.lang.reflect.Field;
import java.lang.reflect.Method;
import java.lang.reflect.Modifier;
import java.util.Arrays;
import java.util.Set;
import java.util.TreeSet;

/** The public face of the document, and rules 1 and 11 of LANGUAGE.md. */
public final class FaceTest {
    private static final String[] METHODS = {"int letter(int)", "int blank()", "int fault()", "int take()",
        "int word(int,int)", "int change(int,int)", "int snow(int)", "int listener(int)", "int about(int,int)",
        "int as(int,int)", "int write(int,int,int,int)", "int rest(int,int,int)", "int tell(int,boolean)",
        "int forget()", "int which()", "int ask()", "int days(int,int,int)", "int image()", "int restore()",
        "int count(int)", "long digest()"};

    private static final Due due = new Due();

    public static void main(String[] args) {
        Class<?> face = ReadBackwards.class;
        due.is("public and final", face.getModifiers(), Modifier.PUBLIC | Modifier.FINAL);
        due.is("constructors", face.getDeclaredConstructors().length, 1);
        due.is("public constructor", face.getDeclaredConstructors()[0].getModifiers(), Modifier.PUBLIC);
        due.is("its parameters", face.getDeclaredConstructors()[0].getParameterCount(), 0);
        constants();
        fields(face);
        Set<String> names = methods(face);
        Class<?>[] inside = face.getDeclaredClasses();
        due.is("at most twelve classes", inside.length + 1 <= 12 ? 1 : 0, 1);
        for (Class<?> c : inside) insideClass(c, names);
        due.end();
    }

    private static void constants() {
        due.is("NONE", ReadBackwards.NONE, -1);
        due.is("UNKNOWN", ReadBackwards.UNKNOWN, -101);
        due.is("OUTSIDE", ReadBackwards.OUTSIDE, -102);
        due.is("STATE", ReadBackwards.STATE, -103);
        due.is("FULL", ReadBackwards.FULL, -104);
    }

    private static void fields(Class<?> face) {
        Set<String> open = new TreeSet<>();
        int held = 0;
        for (Field f : face.getDeclaredFields()) {
            if (!Modifier.isPrivate(f.getModifiers())) open.add(f.getName());
            if (!Modifier.isStatic(f.getModifiers())) held++;
        }
        same("fields that are not private", open, Set.of("NONE", "UNKNOWN", "OUTSIDE", "STATE", "FULL"));
        due.is("at most twenty fields", held <= 20 ? 1 : 0, 1);
    }

    private static Set<String> methods(Class<?> face) {
        Set<String> open = new TreeSet<>();
        Set<String> names = new TreeSet<>();
        for (Method m : face.getDeclaredMethods()) {
            if (Modifier.isPrivate(m.getModifiers())) continue;
            due.is(m.getName() + " is public", m.getModifiers(), Modifier.PUBLIC);
            open.add(signature(m));
            names.add(m.getName());
        }
        same("methods that are not private", open, Set.copyOf(Arrays.asList(METHODS)));
        for (Method m : face.getDeclaredMethods()) {
            if (Modifier.isPrivate(m.getModifiers())) due.is("name of " + m.getName(), names.contains(m.getName()) ? 1 : 0, 0);
        }
        return names;
    }

    private static void insideClass(Class<?> c, Set<String> names) {
        due.is(c.getName() + " is static", c.getModifiers() & Modifier.STATIC, Modifier.STATIC);
        due.is(c.getName() + " is not public", c.getModifiers() & (Modifier.PUBLIC | Modifier.PROTECTED), 0);
        for (Method m : c.getDeclaredMethods()) {
            due.is(c.getName() + "." + m.getName(), names.contains(m.getName()) ? 1 : 0, 0);
        }
        for (Field f : c.getDeclaredFields()) {
            boolean free = Modifier.isStatic(f.getModifiers()) && !Modifier.isFinal(f.getModifiers());
            due.is(c.getName() + "." + f.getName() + " is no open static state", free ? 1 : 0, 0);
        }
    }

    private static String signature(Method m) {
        StringBuilder text = new StringBuilder(m.getReturnType().getName()).append(' ').append(m.getName()).append('(');
        for (Class<?> p : m.getParameterTypes()) {
            if (text.charAt(text.length() - 1) != '(') text.append(',');
            text.append(p.getName());
        }
        return text.append(')').toString();
    }

    private static void same(String what, Set<String> got, Set<String> want) {
        if (!got.equals(want)) System.out.println(what + ": " + got + ", due are " + want);
        due.is(what, got.equals(want) ? 1 : 0, 1);
    }
}
