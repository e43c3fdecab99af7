import java.lang.reflect.Constructor;
import java.lang.reflect.Field;
import java.lang.reflect.Method;
import java.lang.reflect.Modifier;
import java.util.List;
import java.util.TreeSet;

/** The public face, and promise 1: a new object. */
public final class FaceTest {
    /** The document's face, as reflection writes it: int alone. */
    private static final String[] FACE = {"public static final int NONE", "public SoupReader()",
        "public int feed(int,int,int,int,int)", "public int end(int)", "public int out(int)", "public int page()",
        "public int node(int,int)", "public int kid(int,int)", "public int name(int)", "public int attribute(int)",
        "public int serialise(int)", "public int fault(int,int)", "public int faults()", "public int add(int)",
        "public int text(int)", "public int set(int)", "public int remove(int)", "public int find(int)"};

    public static void main(String[] args) {
        face();
        newObject();
        Check.close();
    }

    private static void face() {
        Class<?> face = SoupReader.class;
        TreeSet<String> seen = new TreeSet<>();
        for (Method method : face.getDeclaredMethods()) {
            see(seen, method.getModifiers(), method.toString());
        }
        for (Field field : face.getDeclaredFields()) {
            see(seen, field.getModifiers(), field.toString());
        }
        for (Constructor<?> constructor : face.getDeclaredConstructors()) {
            see(seen, constructor.getModifiers(), constructor.toString());
        }
        Check.due("the face", seen.toString(), new TreeSet<>(List.of(FACE)).toString());
        Check.due("NONE", SoupReader.NONE, -1);
        Check.due("the class", Modifier.toString(face.getModifiers()), "public final");
    }

    private static void see(TreeSet<String> seen, int modifiers, String member) {
        if (!Modifier.isPrivate(modifiers)) {
            seen.add(member.replace("SoupReader.", ""));
        }
    }

    private static void newObject() {
        Soup x = new Soup();
        Check.due("faults() of a new object", x.faults(), 0);
        Check.due("fault(0, 0) of a new object", x.fault(0, 0), -1);
        Check.due("fault(0, 1) of a new object", x.fault(0, 1), -1);
        int[] root = {0, -1, 0, 0, 0, 0, 0};
        for (int what = 0; what < root.length; what++) {
            Check.due("node(0, " + what + ") of a new object", x.node(0, what), root[what]);
        }
        for (int n = 1; n < 125; n++) {
            Check.due("node(" + n + ", 0) of a new object", x.node(n, 0), -1);
        }
        Check.due("kid(0, 0) of a new object", x.kid(0, 0), -1);
        Check.due("out(0) of a new object", x.out(0), -1);
        Check.due("end(1) of a new object", x.end(1), -1);
        Check.due("remove(0) of a new object", x.remove(0), -1);
        Check.due("THE ROOT of a new object", Check.written(x, 0), "<div></div>");
        Check.due("the NAME of THE ROOT", Check.named(x, 0), "div");
        Check.due("page() of nothing", new Soup().page(), 1);
    }
}
