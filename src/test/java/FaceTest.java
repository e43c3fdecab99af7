import java.lang.reflect.Constructor;
import java.lang.reflect.Field;
import java.lang.reflect.Method;
import java.lang.reflect.Modifier;
import java.util.TreeSet;

/** The public face, and promise 1: a new object. */
public final class FaceTest {
    public static void main(String[] args) {
        face();
        newObject();
        Check.close();
    }

    private static void face() {
        TreeSet<String> seen = new TreeSet<>();
        for (Method m : SoupReader.class.getDeclaredMethods()) {
            if (!Modifier.isPrivate(m.getModifiers())) {
                seen.add(m.getName() + m.getParameterCount());
            }
        }
        for (Field f : SoupReader.class.getDeclaredFields()) {
            if (!Modifier.isPrivate(f.getModifiers())) {
                seen.add(f.getName());
            }
        }
        for (Constructor<?> c : SoupReader.class.getDeclaredConstructors()) {
            if (!Modifier.isPrivate(c.getModifiers())) {
                seen.add("new" + c.getParameterCount());
            }
        }
        Check.due("the face", seen.toString(), "[NONE, add1, attribute1, end1, fault2, faults0, feed5, find1, kid2, name1, "
            + "new0, node2, out1, page0, remove1, serialise1, set1, text1]");
        Check.due("NONE", SoupReader.NONE, -1);
        Check.due("is final", Modifier.isFinal(SoupReader.class.getModifiers()) ? 1 : 0, 1);
    }

    private static void newObject() {
        Soup x = new Soup();
        Check.due("faults() of a new object", x.faults(), 0);
        Check.due("fault(0, 0) of a new object", x.fault(0, 0), -1);
        Check.due("fault(0, 1) of a new object", x.fault(0, 1), -1);
        int[] root = {0, -1, 0, 0, 0, 0, 0};
        for (int what = 0; what < root.length; what++) {
            Check.due("node(0, " + what + ") of a new object", x.node(0, what), root[what]);
        }
        for (int n = 1; n < 125; n++) {
            Check.due("node(" + n + ", 0) of a new object", x.node(n, 0), -1);
        }
        Check.due("kid(0, 0) of a new object", x.kid(0, 0), -1);
        Check.due("out(0) of a new object", x.out(0), -1);
        Check.due("end(1) of a new object", x.end(1), -1);
        Check.due("remove(0) of a new object", x.remove(0), -1);
        Check.due("THE ROOT of a new object", Check.written(x, 0), "<div></div>");
        Check.due("the NAME of THE ROOT", Check.named(x, 0), "div");
        Check.due("page() of nothing", new Soup().page(), 1);
    }
}
