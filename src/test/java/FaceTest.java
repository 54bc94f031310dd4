import java.lang.reflect.Constructor;
import java.lang.reflect.Field;
import java.lang.reflect.Method;
import java.lang.reflect.Modifier;
import java.util.Set;
import java.util.TreeSet;

/** The public face, and the rules of LANGUAGE.md that can be seen from the classes. */
public final class FaceTest {
    private static final Set<String> METHODS = Set.of(
            "int sheet(int,int,int)", "int set(int,int,int)", "int copy(int,int,int,int,int)", "int drop(int)",
            "int pay(int,int,int,int,int,int)", "int batch(int,int,int)", "int told(int,int)", "int order(int)", "int mark(int,int)",
            "int feature(int,int,int)", "int profile(int,int)", "int feed(long,int)", "int rules()", "int fault()", "int rule(int)",
            "int judged(int,int,int)", "int would(int,int)", "int acts(int)", "int verdict(int,int)", "int queue(int)", "int cost(int,int)",
            "long setting(int,int)", "long bestSetting(int)", "long learnt(int)", "long costs(int,int)", "long drift(int,int,int,int,int)",
            "int counted(int,int,int)", "int kind(int)", "int as(int,int)", "int ask(int,int)", "int trace(int)", "int count(int)", "int status()");
    private static boolean right = true;

    private static void require(boolean holds, String what) {
        if (!holds) {
            right = false;
            System.out.println(what);
        }
    }

    private static String told(Method m) {
        StringBuilder b = new StringBuilder(m.getReturnType().getName()).append(' ').append(m.getName()).append('(');
        for (int i = 0; i < m.getParameterCount(); i++) {
            b.append(i > 0 ? "," : "").append(m.getParameterTypes()[i].getName());
        }
        return b.append(')').toString();
    }

    private static void face() throws Exception {
        Class<?> c = OddPayments.class;
        require(Modifier.isPublic(c.getModifiers()) && Modifier.isFinal(c.getModifiers()), "the class is public and final");
        Set<String> found = new TreeSet<>();
        Set<String> names = new TreeSet<>();
        for (Method m : c.getDeclaredMethods()) {
            if (!Modifier.isPrivate(m.getModifiers())) {
                require(Modifier.isPublic(m.getModifiers()) && !Modifier.isStatic(m.getModifiers()), "no face's method: " + m);
                require(found.add(told(m)), "twice: " + m);
                names.add(m.getName());
            }
        }
        require(found.equals(METHODS), "the methods are " + found);
        for (Class<?> inside : c.getDeclaredClasses()) {
            for (Method m : inside.getDeclaredMethods()) {
                require(!names.contains(m.getName()), "a public method's name: " + m);
            }
        }
        for (Method m : c.getDeclaredMethods()) {
            require(!Modifier.isPrivate(m.getModifiers()) || !names.contains(m.getName()), "a public method's name: " + m);
        }
        Constructor<?>[] made = c.getDeclaredConstructors();
        require(made.length == 1 && Modifier.isPublic(made[0].getModifiers()) && made[0].getParameterCount() == 0, "one public constructor");
        Set<String> constants = new TreeSet<>();
        for (Field f : c.getDeclaredFields()) {
            if (!Modifier.isPrivate(f.getModifiers())) {
                constants.add(f + " = " + f.get(null));
            }
        }
        String type = "public static final int OddPayments.";
        require(constants.equals(Set.of(type + "NONE = -1000000", type + "BAD = -1000001", type + "STATE = -1000002", type + "FULL = -1000003")),
                "the constants are " + constants);
    }

    private static void shape(Class<?> c) {
        int fields = 0;
        for (Field f : c.getDeclaredFields()) {
            boolean constant = Modifier.isStatic(f.getModifiers());
            require(!constant || Modifier.isFinal(f.getModifiers()), "static and not final: " + f);
            require(!constant || f.getType().isPrimitive() || f.getType() == String.class || f.getType().isArray(), "no constant: " + f);
            fields += constant ? 0 : 1;
        }
        require(fields <= 20, fields + " fields: " + c);
        for (Method m : c.getDeclaredMethods()) {
            require(m.getParameterCount() <= 7, "too many parameters: " + m);
        }
        for (Constructor<?> m : c.getDeclaredConstructors()) {
            require(m.getParameterCount() <= 7, "too many parameters: " + m);
        }
    }

    public static void main(String[] args) throws Exception {
        face();
        Class<?>[] inside = OddPayments.class.getDeclaredClasses();
        require(inside.length <= 11, inside.length + " classes inside");
        shape(OddPayments.class);
        for (Class<?> c : inside) {
            require(Modifier.isStatic(c.getModifiers()) && !Modifier.isPublic(c.getModifiers()), "not static, or public: " + c);
            shape(c);
        }
        if (!right) {
            System.exit(1);
        }
    }
}
