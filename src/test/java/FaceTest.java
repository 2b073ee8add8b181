import java.lang.reflect.Constructor;
import java.lang.reflect.Field;
import java.lang.reflect.Method;
import java.lang.reflect.Modifier;
import java.util.Set;
import java.util.TreeSet;

/** The face is the document's and no more (LANGUAGE.md, rule 1), and dear calls make next to no objects. */
public final class FaceTest {
    private static int wrong = 0;

    private static void check(String what, boolean right) {
        if (!right) {
            wrong++;
            System.out.println("not as due: " + what);
        }
    }

    private static String told(Method m) {
        StringBuilder text = new StringBuilder(m.getReturnType() + " " + m.getName() + "(");
        for (Class<?> type : m.getParameterTypes()) {
            text.append(text.charAt(text.length() - 1) == '(' ? "" : ",").append(type);
        }
        text.append(") ");
        for (Class<?> type : m.getExceptionTypes()) {
            text.append(type.getSimpleName());
        }
        return text.toString();
    }

    private static Set<String> due() {
        Set<String> due = new TreeSet<>();
        for (Face face : Face.ofTheDocument().values()) {
            due.add(face.typed());
        }
        check("the document tells twenty calls: " + due, due.size() == 20);
        return due;
    }

    private static void face() {
        Set<String> found = new TreeSet<>();
        Set<String> names = new TreeSet<>();
        for (Method m : CarrierNet.class.getDeclaredMethods()) {
            if (Modifier.isPrivate(m.getModifiers())) {
                continue;
            }
            check("public, not static: " + m, (m.getModifiers() & (Modifier.PUBLIC | Modifier.STATIC)) == Modifier.PUBLIC);
            found.add(told(m));
            names.add(m.getName());
        }
        check("the methods " + found, found.equals(due()));
        for (Method m : CarrierNet.class.getDeclaredMethods()) {
            check("private with a public name: " + m, !Modifier.isPrivate(m.getModifiers()) || !names.contains(m.getName()));
        }
        for (Class<?> inside : CarrierNet.class.getDeclaredClasses()) {
            check("static: " + inside, Modifier.isStatic(inside.getModifiers()));
            for (Method m : inside.getDeclaredMethods()) {
                check("inside with a public name: " + m, !names.contains(m.getName()));
            }
        }
    }

    private static void rest() throws ReflectiveOperationException {
        for (Field f : CarrierNet.class.getDeclaredFields()) {
            check("private: " + f, Modifier.isPrivate(f.getModifiers()) || f.getName().equals("NONE"));
        }
        check("NONE", CarrierNet.class.getField("NONE").getInt(null) == -1);
        Constructor<?>[] made = CarrierNet.class.getDeclaredConstructors();
        check("one constructor", made.length == 1 && made[0].getParameterCount() == 0
            && Modifier.isPublic(made[0].getModifiers()));
        check("final", Modifier.isFinal(CarrierNet.class.getModifiers()));
    }

    private static CarrierNet busyNet() {
        CarrierNet x = new CarrierNet();
        for (int c = 0; c < 12; c++) {
            x.cart(127, c * 2, c % 3, 1, c);
            for (int s = 1; s < 6; s++) {
                x.stop(c, (c * 5 + s * 7) % 12, s * 12);
            }
        }
        for (int p = 0; p < 60; p++) {
            x.parcel(p % 12, (p * 7 + 1) % 12 == p % 12 ? (p + 1) % 12 : (p * 7 + 1) % 12, 1 + p % 2);
        }
        for (int s = 1; s <= 8; s++) {
            x.errand(s, 0, s % 2);
        }
        return x;
    }

    private static long dearCalls() {
        CarrierNet x = busyNet();
        long sum = 0;
        for (int i = 0; i < 40; i++) {
            sum += x.tick(120) + x.soon(0, i, 11) + x.reach(1, i, i + 336) + x.cut(i % 12, i, 5);
            x.walk(0, 1 + i % 8, i % 3);
            sum += x.best(500, 1) + x.round(500, 7) + x.count(6);
        }
        return sum;
    }

    private static void objects() {
        com.sun.management.ThreadMXBean bean =
            (com.sun.management.ThreadMXBean) java.lang.management.ManagementFactory.getThreadMXBean();
        long id = Thread.currentThread().getId();
        dearCalls();
        long before = bean.getThreadAllocatedBytes(id);
        dearCalls();
        long bytes = bean.getThreadAllocatedBytes(id) - before;
        check("one net and its dear calls took " + bytes + " bytes", bytes < 100_000);
    }

    public static void main(String[] args) throws ReflectiveOperationException {
        face();
        rest();
        objects();
        System.out.println("FaceTest: " + wrong + " not as due");
        if (wrong != 0) {
            System.exit(1);
        }
    }
}
