import java.lang.reflect.InvocationTargetException;
import java.lang.reflect.Method;
import java.util.Arrays;
import java.util.Comparator;
import java.util.Set;
import java.util.TreeSet;

/** Runs every boundary case that an Edge marks, and asks that no part of the document is without one. */
final class EdgesTest {
    private static final Due DUE = new Due();
    private static final int PROMISES = 34;
    private static final Class<?>[] EDGES = {TermsEdges.class, BuiltEdges.class, WalkEdges.class, SensorEdges.class,
        BackEdges.class, GroupEdges.class};

    private static final Set<String> PARTS = new TreeSet<>();
    private static final Set<String> CASES = new TreeSet<>();

    public static void main(String[] args) {
        for (Class<?> edges : EDGES) {
            runAll(edges);
        }
        DUE.begin("EdgesTest");
        for (int n = 1; n <= PROMISES; n++) {
            DUE.yes("a case of promise " + n, PARTS.contains("Promise " + n));
        }
        for (String part : new String[] {"What it is", "Terms 1", "Terms 2"}) {
            DUE.yes("a case of " + part, PARTS.contains(part));
        }
        System.out.println(CASES.size() + " boundary cases");
        DUE.end("EdgesTest");
    }

    private static void runAll(Class<?> edges) {
        Method[] all = edges.getDeclaredMethods();
        Arrays.sort(all, Comparator.comparing(Method::getName));
        for (Method m : all) {
            Edge edge = m.getAnnotation(Edge.class);
            if (edge != null) {
                runOne(m, edge.value());
            }
        }
    }

    private static void runOne(Method m, String name) {
        DUE.begin(name);
        int askedAhead = DUE.asked();
        DUE.yes("its name is its own", CASES.add(name));
        DUE.yes("its name tells a part", name.indexOf(':') > 0);
        PARTS.add(name.substring(0, Math.max(0, name.indexOf(':'))));
        try {
            m.invoke(null, DUE);
        } catch (InvocationTargetException e) {
            DUE.yes("threw " + e.getCause(), false);
        } catch (IllegalAccessException e) {
            DUE.yes("can't be run: " + e, false);
        }
        DUE.yes("it asks for something", DUE.asked() > askedAhead + 2);
    }
}
