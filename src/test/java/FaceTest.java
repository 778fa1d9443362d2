import java.lang.reflect.Constructor;
import java.lang.reflect.Field;
import java.lang.reflect.Method;
import java.lang.reflect.Modifier;
import java.util.Set;
import java.util.TreeSet;

/** The class shows the document's face and nothing else. */
public final class FaceTest {
    private static final Set<String> METHODS = Set.of(
            "public int dimension(int,int)", "public int variable(int,int,int,int)",
            "public int attribute(int,int,int,int,int)", "public int drop(int,int)",
            "public int rename(boolean,int,int)", "public int seal()", "public int redefine()",
            "public int put(int,int,int,int)", "public long get(int,int,int)", "public int select(int,int,int,int)",
            "public int putSlab(int,int,int)", "public long getSlab(int,int)", "public int records()",
            "public int size()", "public int begin(int)", "public long eight(int)", "public boolean add(long,int)",
            "public void erase()", "public int open()");
    private static final Set<String> CONSTANTS = Set.of(
            "public static final int MODE = -1", "public static final int BAD = -2",
            "public static final int NOTHING = -3", "public static final int TAKEN = -4",
            "public static final int FULL = -5", "public static final int RANGE = -6",
            "public static final int OUTSIDE = -7", "public static final int TOOBIG = -8",
            "public static final int MALFORMED = -9", "public static final long NOVALUE = 1099511627776");

    public static void main(String[] args) {
        Check check = new Check();
        check.sentence("public final class SlabImage", FaceTest::itself);
        check.sentence("the public constructor, and no other", FaceTest::constructor);
        check.sentence("the public methods, and no others", FaceTest::methods);
        check.sentence("the public constants, and no others", FaceTest::constants);
        check.sentence("the classes inside are static and not public", FaceTest::classesInside);
        check.end();
    }

    private static void itself(Check c) {
        String shown = Modifier.toString(SlabImage.class.getModifiers());
        c.due("the class is " + shown, shown.equals("public final"), true);
        c.due("in the package " + SlabImage.class.getPackageName(), SlabImage.class.getPackageName().isEmpty(), true);
        c.due("built on " + SlabImage.class.getSuperclass(), SlabImage.class.getSuperclass() == Object.class, true);
    }

    private static void constructor(Check c) {
        Constructor<?>[] made = SlabImage.class.getDeclaredConstructors();
        c.due("the number of constructors", made.length, 1);
        c.due("it is public", Modifier.isPublic(made[0].getModifiers()), true);
        c.due("the number of its parameters", made[0].getParameterCount(), 0);
    }

    private static void methods(Check c) {
        Set<String> shown = new TreeSet<>();
        Set<String> names = new TreeSet<>();
        for (Method m : SlabImage.class.getDeclaredMethods()) {
            if (!Modifier.isPrivate(m.getModifiers())) {
                shown.add(text(m));
                names.add(m.getName());
            }
        }
        c.due("the shown methods " + shown, shown.equals(METHODS), true);
        for (Method m : SlabImage.class.getDeclaredMethods()) {
            if (Modifier.isPrivate(m.getModifiers())) {
                c.due("a private method called " + m.getName(), names.contains(m.getName()), false);
            }
        }
    }

    private static String text(Method m) {
        StringBuilder text = new StringBuilder(Modifier.toString(m.getModifiers()));
        text.append(' ').append(m.getReturnType()).append(' ').append(m.getName()).append('(');
        for (int k = 0; k < m.getParameterCount(); k++) {
            text.append(k == 0 ? "" : ",").append(m.getParameterTypes()[k]);
        }
        return text.append(")").toString();
    }

    private static void constants(Check c) {
        Set<String> shown = new TreeSet<>();
        for (Field f : SlabImage.class.getDeclaredFields()) {
            if (!Modifier.isPrivate(f.getModifiers())) {
                shown.add(Modifier.toString(f.getModifiers()) + " " + f.getType() + " " + f.getName() + value(f));
            } else if (Modifier.isStatic(f.getModifiers())) {
                c.due("final " + f.getName(), Modifier.isFinal(f.getModifiers()), true);
            }
        }
        c.due("the shown fields " + shown, shown.equals(CONSTANTS), true);
    }

    private static String value(Field f) {
        try {
            return " = " + f.get(null);
        } catch (ReflectiveOperationException | NullPointerException hidden) {
            return " that cannot be read";
        }
    }

    private static void classesInside(Check c) {
        for (Class<?> inside : SlabImage.class.getDeclaredClasses()) {
            int how = inside.getModifiers();
            c.due("static " + inside.getName(), Modifier.isStatic(how), true);
            c.due("shown " + inside.getName(), Modifier.isPublic(how) || Modifier.isProtected(how), false);
        }
    }
}
