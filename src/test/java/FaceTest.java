import java.lang.reflect.Constructor;
import java.lang.reflect.Field;
import java.lang.reflect.Method;
import java.lang.reflect.Modifier;
import java.util.Set;
import java.util.TreeSet;

/** The class shows the document's face and nothing else. */
public final class FaceTest {
    private static final Set<String> FACE = new TreeSet<>(Set.of(
            "int dimension(int,int)", "int variable(int,int,int,int)", "int attribute(int,int,int,int,int)",
            "int drop(int,int)", "int rename(boolean,int,int)", "int seal()", "int redefine()",
            "int put(int,int,int,int)", "long get(int,int,int)", "int select(int,int,int,int)",
            "int putSlab(int,int,int)", "long getSlab(int,int)", "int records()", "int size()",
            "int begin(int)", "long eight(int)", "boolean add(long,int)", "void erase()", "int open()"));

    public static void main(String[] args) {
        Check check = new Check();
        methods(check);
        constants(check);
        Constructor<?>[] made = SlabImage.class.getDeclaredConstructors();
        check.due("the number of constructors", made.length, 1);
        check.due("the public constructor without parameters",
                Modifier.isPublic(made[0].getModifiers()) && made[0].getParameterCount() == 0, true);
        for (Class<?> inside : SlabImage.class.getDeclaredClasses()) {
            check.due("static " + inside.getName(), Modifier.isStatic(inside.getModifiers()), true);
        }
        check.end();
    }

    private static void methods(Check check) {
        Set<String> shown = new TreeSet<>();
        Set<String> names = new TreeSet<>();
        for (Method m : SlabImage.class.getDeclaredMethods()) {
            if (!Modifier.isPrivate(m.getModifiers())) {
                shown.add(text(m));
                names.add(m.getName());
            }
        }
        check.due("the shown methods " + shown, shown.equals(FACE), true);
        for (Method m : SlabImage.class.getDeclaredMethods()) {
            if (Modifier.isPrivate(m.getModifiers())) {
                check.due("a private method called " + m.getName(), names.contains(m.getName()), false);
            }
        }
    }

    private static String text(Method m) {
        StringBuilder text = new StringBuilder(m.getReturnType() + " " + m.getName() + "(");
        for (int k = 0; k < m.getParameterCount(); k++) {
            text.append(k == 0 ? "" : ",").append(m.getParameterTypes()[k]);
        }
        return text.append(")").toString();
    }

    private static void constants(Check check) {
        int shown = 0;
        for (Field f : SlabImage.class.getDeclaredFields()) {
            if (!Modifier.isPrivate(f.getModifiers())) {
                shown++;
            }
        }
        check.due("the number of constants", shown, 10);
        check.due("MODE", SlabImage.MODE, -1);
        check.due("BAD", SlabImage.BAD, -2);
        check.due("NOTHING", SlabImage.NOTHING, -3);
        check.due("TAKEN", SlabImage.TAKEN, -4);
        check.due("FULL", SlabImage.FULL, -5);
        check.due("RANGE", SlabImage.RANGE, -6);
        check.due("OUTSIDE", SlabImage.OUTSIDE, -7);
        check.due("TOOBIG", SlabImage.TOOBIG, -8);
        check.due("MALFORMED", SlabImage.MALFORMED, -9);
        check.due("NOVALUE", SlabImage.NOVALUE, 1099511627776L);
    }
}
