import java.lang.reflect.Constructor;
import java.lang.reflect.Field;
import java.lang.reflect.Method;
import java.lang.reflect.Modifier;
import java.util.Arrays;
import java.util.TreeSet;

/** The public face of the document, and no other member that others could see. */
public final class FaceTest {
    private static final String[] FACE = {
        "public boolean tap(int) throws IllegalArgumentException",
        "public int dead(int,int) throws IllegalArgumentException",
        "public int draw(int,int,int) throws IllegalArgumentException,IllegalStateException",
        "public int drawn(int,int) throws IllegalArgumentException",
        "public int loop(int,int) throws IllegalArgumentException",
        "public int pipe(int,int,int) throws IllegalArgumentException,IllegalStateException",
        "public int plug(int,int,int) throws IllegalArgumentException",
        "public int run(int) throws IllegalArgumentException,IllegalStateException",
        "public int set(int,int) throws IllegalArgumentException",
        "public int shock(int,int,int,int,int) throws IllegalArgumentException",
        "public int told(int,int) throws IllegalArgumentException",
        "public int warm(int,int) throws IllegalArgumentException",
        "public long heat(int) throws IllegalArgumentException",
    };

    public static void main(String[] args) {
        Check.is("NONE", HotLoops.NONE, -1);
        Check.same("the class", Modifier.toString(HotLoops.class.getModifiers()), "public final");
        Check.same("the methods", methods().toString(), new TreeSet<>(Arrays.asList(FACE)).toString());
        for (Constructor<?> c : HotLoops.class.getDeclaredConstructors()) {
            Check.same("a constructor", c.toString(), "public HotLoops()");
        }
        for (Field f : HotLoops.class.getDeclaredFields()) {
            if (!Modifier.isPrivate(f.getModifiers())) {
                Check.same("a field", f.toString(), "public static final int HotLoops.NONE");
            }
        }
        for (Class<?> inside : HotLoops.class.getDeclaredClasses()) {
            int is = inside.getModifiers();
            Check.is(inside + " is static", Modifier.isStatic(is), true);
            Check.is(inside + " is seen", Modifier.isPublic(is) || Modifier.isProtected(is), false);
        }
        Check.end();
    }

    private static TreeSet<String> methods() {
        TreeSet<String> names = new TreeSet<>();
        for (Method m : HotLoops.class.getDeclaredMethods()) {
            if (!Modifier.isPrivate(m.getModifiers())) {
                names.add(m.toString().replace("HotLoops.", "").replace("java.lang.", ""));
            }
        }
        return names;
    }
}
