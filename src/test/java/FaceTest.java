import java.lang.reflect.Constructor;
import java.lang.reflect.Field;
import java.lang.reflect.InvocationTargetException;
import java.lang.reflect.Method;
import java.lang.reflect.Modifier;
import java.util.NoSuchElementException;
import java.util.Set;
import java.util.TreeSet;

/** The class shows the document's face and no more, and answers any arguments in any state without the machine's exceptions. */
public final class FaceTest {
    private static final Set<String> FACE = new TreeSet<>(Set.of(
            "boolean parcel(int,int)", "boolean part(int,int,int,int)", "boolean beside(int,int,int)", "boolean water(int,int)",
            "boolean kin(int,int,int)", "boolean need(int,boolean)", "boolean care(int,boolean)", "int days(int)", "int feed(long,long,long)", "int law()",
            "int holds(int,int)", "int stands(int,int,int)", "int pass(int,int,int,int,int,int,int)", "int would(int,int,int,int,int,int,int)",
            "int look(int,int)", "int may(int,int)", "int order(int,int)", "boolean hears(int,int,int)", "int till(int,int)", "boolean waive(int,int)",
            "boolean truly(int,int)", "int claim(int,int,int)", "int parted(int,int)", "int sly(int,int,int,int)", "int slyRow(int,int,int,int,int,int)",
            "int far(int,int,int,int)", "boolean honest(int,int,int,int,int,int)", "int mended(int,int,int,int,int)", "boolean mark(int,boolean)", "int count(int)"));
    private static final int[] ODD = {Integer.MIN_VALUE, Integer.MIN_VALUE + 1, -65536, -17, -2, -1, 16, 17, 31, 32, 33, 39, 40, 41, 64, 512, 9999, 10000, 1 << 30, Integer.MAX_VALUE};
    private static int passed;
    private static int failed;

    public static void main(String[] args) throws Exception {
        face();
        hidden();
        for (int seed = 1; seed <= 60; seed++) {
            anything(seed);
        }
        System.out.println("FaceTest: " + passed + " passed, " + failed + " failed");
        if (failed > 0) {
            System.exit(1);
        }
    }

    private static void yes(String what, boolean got) {
        if (got) {
            passed++;
        } else {
            failed++;
            System.out.println("FaceTest: not so: " + what);
        }
    }

    private static String told(Method m) {
        StringBuilder text = new StringBuilder(m.getReturnType().getSimpleName() + " " + m.getName() + "(");
        for (Class<?> type : m.getParameterTypes()) {
            text.append(text.charAt(text.length() - 1) == '(' ? "" : ",").append(type.getSimpleName());
        }
        return text.append(")").toString();
    }

    private static void face() throws Exception {
        Class<?> c = FirstComer.class;
        yes("public and final", Modifier.isPublic(c.getModifiers()) && Modifier.isFinal(c.getModifiers()));
        Set<String> seen = new TreeSet<>();
        Set<String> names = new TreeSet<>();
        for (Method m : c.getDeclaredMethods()) {
            if (!Modifier.isPrivate(m.getModifiers())) {
                seen.add(told(m));
                names.add(m.getName());
                yes(m + " is public and of the object", m.getModifiers() == Modifier.PUBLIC);
            }
        }
        yes("the methods of the document: " + seen, seen.equals(FACE));
        for (Method m : c.getDeclaredMethods()) {
            yes(m + " does not bear a public one's name", !Modifier.isPrivate(m.getModifiers()) || !names.contains(m.getName()));
        }
        Constructor<?>[] made = c.getDeclaredConstructors();
        yes("one constructor", made.length == 1 && Modifier.isPublic(made[0].getModifiers()) && made[0].getParameterCount() == 0);
        Method look = c.getMethod("look", int.class, int.class);
        yes("look() tells what it throws", look.getExceptionTypes().length == 1 && look.getExceptionTypes()[0] == NoSuchElementException.class);
    }

    private static void hidden() {
        for (Field f : FirstComer.class.getDeclaredFields()) {
            boolean none = f.getName().equals("NONE");
            yes(f + " is hidden", none || Modifier.isPrivate(f.getModifiers()));
            yes(f + " is final if it is static", !Modifier.isStatic(f.getModifiers()) || Modifier.isFinal(f.getModifiers()));
            if (none) {
                yes("NONE is public", Modifier.isPublic(f.getModifiers()) && Modifier.isStatic(f.getModifiers()) && f.getType() == int.class);
            }
        }
        for (Class<?> inside : FirstComer.class.getDeclaredClasses()) {
            yes(inside + " is static and hidden", Modifier.isStatic(inside.getModifiers()) && Modifier.isPrivate(inside.getModifiers()));
            for (Method m : inside.getDeclaredMethods()) {
                boolean borrowed = FACE.stream().anyMatch(face -> face.contains(" " + m.getName() + "("));
                yes(m + " does not bear a public one's name", !borrowed);
                yes(m + " takes seven at most", m.getParameterCount() <= 7);
            }
        }
    }

    /** 512 calls of any methods with arguments of any size; look() alone may throw, and only its own exception. */
    private static void anything(int seed) throws IllegalAccessException {
        Laws dice = new Laws(1000 + seed);
        FirstComer x = new FirstComer();
        Method[] all = FirstComer.class.getMethods();
        for (int i = 0; i < 12 && seed % 3 != 0; i++) {
            x.parcel(i, dice.below(16));
        }
        Told.law(x, dice.law(5));
        for (int call = 0; call < 450; call++) {
            Method m = all[dice.below(all.length)];
            if (m.getDeclaringClass() != FirstComer.class) {
                continue;
            }
            Object[] with = new Object[m.getParameterCount()];
            for (int i = 0; i < with.length; i++) {
                with[i] = any(dice, m.getParameterTypes()[i]);
            }
            try {
                m.invoke(x, with);
                passed++;
            } catch (InvocationTargetException e) {
                boolean meant = m.getName().equals("look") && e.getCause().getClass() == NoSuchElementException.class;
                yes(m.getName() + java.util.Arrays.toString(with) + " does not throw " + e.getCause(), meant);
            }
        }
    }

    private static Object any(Laws dice, Class<?> type) {
        if (type == boolean.class) {
            return dice.chance(50);
        }
        if (type == long.class) {
            return (long) dice.below(Integer.MAX_VALUE) << 33 ^ (long) dice.below(Integer.MAX_VALUE) << 11 ^ dice.below(1 << 12);
        }
        return dice.chance(15) ? ODD[dice.below(ODD.length)] : dice.below(dice.chance(50) ? 3 : 14);
    }
}
