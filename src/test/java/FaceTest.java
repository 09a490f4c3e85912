import java.lang.reflect.Constructor;
import java.lang.reflect.Field;
import java.lang.reflect.Method;
import java.lang.reflect.Modifier;
import java.util.ArrayList;
import java.util.Arrays;
import java.util.List;
import java.util.Set;
import java.util.TreeSet;

/** The public face, and what LANGUAGE.md says of members, as far as the compiled class shows it. */
final class FaceTest {
    private static final Due DUE = new Due();
    private static final String[] FACE = {
        "int prop(int,int)", "int step(int,int,int,int)", "boolean need(int,int,int)",
        "boolean give(int,int,int)", "boolean goal(int,int)", "boolean hands(int)",
        "boolean rule(int,int,int)", "boolean exit(int,int)", "int clear()", "int count(int)",
        "int reached()", "int comes(int)", "int part(int,int,int) throws", "int open(int)",
        "int behind(int,int)", "int least(int)", "int hint(int)", "int way(int)", "int longest()",
        "int trap()", "int lost()", "int must(int,int,int,int)", "int idle()",
        "boolean reading(int,int)", "int liars()", "int back(int)", "int enter(int)",
        "int act(int,int)", "int group(int,int) throws", "int leave(int)", "int alarm()",
        "int log(int,int)", "int row(int) throws"};

    public static void main(String[] args) {
        face();
        constants();
        members();
        for (Class<?> inside : LockedHouse.class.getDeclaredClasses()) {
            inside(inside);
        }
        DUE.yes("some twelve classes", LockedHouse.class.getDeclaredClasses().length < 12);
        DUE.end("FaceTest");
    }

    private static String told(Method m) {
        List<String> parameters = new ArrayList<>();
        for (Class<?> p : m.getParameterTypes()) {
            parameters.add(p.getName());
        }
        String thrown = m.getExceptionTypes().length == 0 ? "" : " throws";
        return m.getReturnType().getName() + " " + m.getName() + "(" + String.join(",", parameters) + ")" + thrown;
    }

    private static void face() {
        Set<String> want = new TreeSet<>(Arrays.asList(FACE));
        Set<String> got = new TreeSet<>();
        for (Method m : LockedHouse.class.getDeclaredMethods()) {
            if (!Modifier.isPrivate(m.getModifiers())) {
                got.add(told(m));
                DUE.yes(m + " is public and no static", Modifier.isPublic(m.getModifiers()) && !Modifier.isStatic(m.getModifiers()));
            }
        }
        DUE.is("33 methods", want.size(), 33);
        DUE.yes("the face is " + got, got.equals(want));
        DUE.yes("public final", Modifier.isPublic(LockedHouse.class.getModifiers())
            && Modifier.isFinal(LockedHouse.class.getModifiers()));
        Constructor<?>[] made = LockedHouse.class.getDeclaredConstructors();
        DUE.is("one constructor", made.length, 1);
        DUE.yes("public, of nothing", Modifier.isPublic(made[0].getModifiers()) && made[0].getParameterCount() == 0);
    }

    private static void constants() {
        Set<String> open = new TreeSet<>();
        for (Field f : LockedHouse.class.getDeclaredFields()) {
            if (!Modifier.isPrivate(f.getModifiers())) {
                open.add(f.getName());
            }
        }
        DUE.yes("NONE and SPENT alone", open.equals(new TreeSet<>(List.of("NONE", "SPENT"))));
    }

    private static void members() {
        Set<String> names = new TreeSet<>();
        for (String told : FACE) {
            names.add(told.substring(told.indexOf(' ') + 1, told.indexOf('(')));
        }
        List<Class<?>> all = new ArrayList<>(List.of(LockedHouse.class.getDeclaredClasses()));
        all.add(LockedHouse.class);
        for (Class<?> c : all) {
            for (Method m : c.getDeclaredMethods()) {
                DUE.yes(m + " has at most seven", m.getParameterCount() <= 7);
                DUE.yes(m + " has a name of its own", Modifier.isPublic(m.getModifiers()) || !names.contains(m.getName()));
            }
            int fields = 0;
            for (Field f : c.getDeclaredFields()) {
                boolean isStatic = Modifier.isStatic(f.getModifiers());
                fields += isStatic ? 0 : 1;
                DUE.yes(f + " is final if static", !isStatic || Modifier.isFinal(f.getModifiers()));
            }
            DUE.yes(c + " has some twenty fields", fields <= 20);
        }
    }

    private static void inside(Class<?> c) {
        DUE.yes(c + " is static", Modifier.isStatic(c.getModifiers()));
        DUE.yes(c + " is not open", !Modifier.isPublic(c.getModifiers()) && !Modifier.isProtected(c.getModifiers()));
    }
}
