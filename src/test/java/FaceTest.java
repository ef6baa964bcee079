import java.lang.reflect.Constructor;
import java.lang.reflect.Field;
import java.lang.reflect.Method;
import java.lang.reflect.Modifier;
import java.util.ArrayList;
import java.util.HashSet;
import java.util.List;
import java.util.Set;
import java.util.TreeSet;

/** The public face as the document tells it, and nothing beside it. */
public final class FaceTest {
    private static final String FACE = "boolean end(int) boolean feud(int,int,boolean) boolean give(int,int,int,int) boolean image(boolean)"
        + " boolean seat(int,int) boolean set(int,int) boolean undo() int away(int) int book(int,int) int change(int)"
        + " int evenings(int) int fame(int) int fault(int) int feed(int,int,int,int,int) int fit(int) int guest(int)"
        + " int half(int,int,int,int) int heirs(int,int) int laugh(int,int) int like(int,int) int look(int) int merry()"
        + " int of(int,int) int seating(int) int silent(int) int state(int) int telling(int,int) int text() int told(int,int)"
        + " int uncle(int,int) int who(int,int) int worth(int,int)";

    private static String told(Method m) {
        List<String> types = new ArrayList<>();
        for (Class<?> t : m.getParameterTypes()) types.add(t.getSimpleName());
        return m.getReturnType().getSimpleName() + " " + m.getName() + "(" + String.join(",", types) + ")";
    }

    private static void methods() {
        Set<String> names = new HashSet<>();
        Set<String> face = new TreeSet<>();
        for (Method m : HalfAJoke.class.getDeclaredMethods()) {
            if (Modifier.isPublic(m.getModifiers())) {
                face.add(told(m));
                names.add(m.getName());
                Check.due(m + " is no static one", Modifier.isStatic(m.getModifiers()), false);
            }
        }
        Check.due("the methods", String.join(" ", face), FACE);
        for (Method m : HalfAJoke.class.getDeclaredMethods()) {
            if (!Modifier.isPublic(m.getModifiers())) {
                Check.due(m + " is private", Modifier.isPrivate(m.getModifiers()), true);
                Check.due(m + " bears its own name", names.contains(m.getName()), false);
            }
        }
        for (Class<?> c : HalfAJoke.class.getDeclaredClasses()) {
            Check.due(c + " is static", Modifier.isStatic(c.getModifiers()), true);
            Check.due(c + " is not seen", Modifier.isPublic(c.getModifiers()) || Modifier.isProtected(c.getModifiers()), false);
            for (Method m : c.getDeclaredMethods()) Check.due(m + " bears its own name", names.contains(m.getName()), false);
        }
    }

    private static void fields() throws Exception {
        for (Field f : HalfAJoke.class.getDeclaredFields()) {
            boolean constant = f.getName().equals("NONE");
            Check.due(f + " is private", Modifier.isPrivate(f.getModifiers()), !constant);
        }
        Field none = HalfAJoke.class.getField("NONE");
        Check.due("NONE is constant", Modifier.isStatic(none.getModifiers()) && Modifier.isFinal(none.getModifiers()), true);
        Check.due("NONE", none.getInt(null), -1);
        Check.due("the classes", HalfAJoke.class.getDeclaredClasses().length <= 12, true);
    }

    public static void main(String[] args) throws Exception {
        Check.due("public and final", HalfAJoke.class.getModifiers(), Modifier.PUBLIC | Modifier.FINAL);
        Constructor<?>[] made = HalfAJoke.class.getDeclaredConstructors();
        Check.due("constructors", made.length, 1);
        Check.due("it is public", Modifier.isPublic(made[0].getModifiers()), true);
        Check.due("it asks for nothing", made[0].getParameterCount(), 0);
        methods();
        fields();
        Check.finish();
    }
}
