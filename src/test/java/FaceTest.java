import java.lang.reflect.Constructor;
import java.lang.reflect.Field;
import java.lang.reflect.Method;
import java.lang.reflect.Modifier;
import java.util.Arrays;
import java.util.TreeSet;

/** The public face: what the document names and nothing else. */
public final class FaceTest {
    private static final String[] FACE = {
        "peek(int)", "poke(int,int)", "resize(int)", "push(int)", "pop()", "block(int,int)", "free(int)",
        "protect(int,int)", "save()", "load()", "fault(int)", "mark()", "undo()", "restart()", "at(int)",
        "alter(int,int)", "cut(int)", "more(long,int)", "seal()", "count(int)", "hash()"};

    public static void main(String[] args) {
        DueSupport t = new DueSupport();
        TreeSet<String> seen = new TreeSet<>();
        TreeSet<String> names = new TreeSet<>();
        for (Method m : GlulxSaves.class.getDeclaredMethods()) {
            if (Modifier.isPrivate(m.getModifiers())) {
                names.add(m.getName());
                continue;
            }
            String types = Arrays.toString(m.getParameterTypes()).replaceAll("[\\[\\] ]", "");
            seen.add(m.getName() + "(" + types + ")");
            t.due(m + " is public", m.getModifiers(), Modifier.PUBLIC);
            t.due(m + " answers an int", m.getReturnType() == int.class ? 1 : 0, 1);
        }
        t.due("the methods are " + seen, seen.equals(new TreeSet<>(Arrays.asList(FACE))) ? 1 : 0, 1);
        for (String call : FACE) {
            t.due("private " + call, names.contains(call.substring(0, call.indexOf('('))) ? 1 : 0, 0);
        }
        for (Field f : GlulxSaves.class.getDeclaredFields()) {
            t.due(f + " is private", Modifier.isPrivate(f.getModifiers()) ? 1 : 0, 1);
        }
        Constructor<?>[] makers = GlulxSaves.class.getDeclaredConstructors();
        t.due("constructors", makers.length, 1);
        t.due("it is public", makers[0].getModifiers(), Modifier.PUBLIC);
        t.due("the class", GlulxSaves.class.getModifiers(), Modifier.PUBLIC | Modifier.FINAL);
        t.finish("FaceTest");
    }
}
