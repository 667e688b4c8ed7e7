import java.lang.reflect.Constructor;
import java.lang.reflect.Field;
import java.lang.reflect.Method;
import java.lang.reflect.Modifier;
import java.util.ArrayList;
import java.util.Arrays;
import java.util.Collections;
import java.util.HashSet;
import java.util.List;
import java.util.Set;

/** The face is the document's and no more, and no call throws whatever it is given. */
public final class FaceTest {
    private static final String[] METHODS = {
        "int letter(int)", "int blank()", "int fault()", "int hall()", "int on(int)", "int duke(int,int)",
        "int courtier(int,int)", "int about(int,int)", "int as(int,int)", "int go(int,int)", "int act(int)",
        "int guilty()", "int room(int,int)", "int brick(int)", "int way(int,int)", "int told(int,int)",
        "int stood(int)", "int walk(int,int,int)", "int image()", "int restore()", "int count(int)", "long digest()"};
    private static final int[] ODD = {
        Integer.MIN_VALUE, Integer.MIN_VALUE + 1, -103, -2, -1, 0, 1, 2, 3, 4, 5, 6, 19, 20, 21, 24, 32, 60, 61, 80,
        Integer.MAX_VALUE - 1, Integer.MAX_VALUE};

    public static void main(String[] args) throws Exception {
        constants();
        members();
        nothingThrows();
        Due.end();
    }

    private static void constants() throws Exception {
        String[] names = {"NONE", "UNKNOWN", "OUTSIDE", "STATE", "FULL"};
        int[] values = {-1, -101, -102, -103, -104};
        for (int i = 0; i < names.length; i++) {
            Field field = LeftProfile.class.getField(names[i]);
            Due.is(names[i], field.getInt(null), values[i]);
            Due.holds(names[i] + " is no constant", Modifier.isFinal(field.getModifiers()));
        }
        Due.is("public fields", LeftProfile.class.getFields().length, names.length);
    }

    private static String told(Method m) {
        String types = Arrays.toString(m.getParameterTypes()).replace("[", "").replace("]", "").replace(" ", "");
        return m.getReturnType() + " " + m.getName() + "(" + types + ")";
    }

    private static void members() {
        Due.holds("the class is not public and final", LeftProfile.class.getModifiers() == (Modifier.PUBLIC | Modifier.FINAL));
        List<String> open = new ArrayList<>();
        Set<String> openNames = new HashSet<>();
        for (Method m : LeftProfile.class.getDeclaredMethods()) {
            if (!Modifier.isPrivate(m.getModifiers())) {
                open.add(told(m));
                openNames.add(m.getName());
                Due.holds(m + " is not public", Modifier.isPublic(m.getModifiers()));
            }
        }
        List<String> due = new ArrayList<>(List.of(METHODS));
        Collections.sort(open);
        Collections.sort(due);
        Due.holds("the methods are " + open, open.equals(due));
        for (Field f : LeftProfile.class.getDeclaredFields()) {
            boolean face = Modifier.isPublic(f.getModifiers()) && Modifier.isStatic(f.getModifiers());
            Due.holds(f + " is seen", face || Modifier.isPrivate(f.getModifiers()));
            Due.holds(f + " is static and not final", !Modifier.isStatic(f.getModifiers()) || Modifier.isFinal(f.getModifiers()));
        }
        Constructor<?>[] made = LeftProfile.class.getDeclaredConstructors();
        Due.holds("the constructor", made.length == 1 && made[0].getParameterCount() == 0 && Modifier.isPublic(made[0].getModifiers()));
        for (Class<?> c : LeftProfile.class.getDeclaredClasses()) {
            Due.holds(c + " is not static or is seen", Modifier.isStatic(c.getModifiers()) && !Modifier.isPublic(c.getModifiers()));
            for (Method m : c.getDeclaredMethods()) {
                Due.holds(m + " bears a name of the face", !openNames.contains(m.getName()));
                Due.holds(m + " takes over seven", m.getParameterCount() <= 7);
            }
            Due.holds(c + " has over twenty fields", c.getDeclaredFields().length <= 20);
        }
        Due.holds("over twelve classes", LeftProfile.class.getDeclaredClasses().length < 12);
    }

    /** Each call with each odd number, in a new object, in a hall, with a duke, and in a full one. */
    private static void nothingThrows() throws Exception {
        String open = "...../.#.../...../..#..";
        for (int state = 0; state < 4; state++) {
            LeftProfile x = state == 0 ? new LeftProfile() : Due.in(open);
            if (state >= 2) {
                x.duke(7, 1);
                x.image();
            }
            for (int n = 0; state == 3 && n < 6; n++) {
                x.courtier(n % 5, n == 0 ? 0 : 9 + n);
            }
            for (Method m : LeftProfile.class.getMethods()) {
                if (m.getDeclaringClass() == LeftProfile.class) {
                    callWithAll(x, m, new Object[m.getParameterCount()], 0);
                }
            }
        }
    }

    private static void callWithAll(LeftProfile x, Method m, Object[] given, int at) throws Exception {
        if (at < given.length) {
            for (int odd : ODD) {
                given[at] = odd;
                callWithAll(x, m, given, at + 1);
            }
            return;
        }
        try {
            m.invoke(x, given);
        } catch (java.lang.reflect.InvocationTargetException thrown) {
            Due.holds(m.getName() + Arrays.toString(given) + " threw " + thrown.getCause(), false);
            return;
        }
        Due.holds("", true);
    }
}
