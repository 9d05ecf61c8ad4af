import java.lang.reflect.Constructor;
import java.lang.reflect.Field;
import java.lang.reflect.Method;
import java.lang.reflect.Modifier;
import java.util.Set;
import java.util.TreeSet;

/** The class shows the document's face and nothing else, and keeps no state that is not an object's own. */
public final class FaceTest {
    private static int wrong = 0;

    public static void main(String[] args) throws Exception {
        dueSame("methods", shownMethods(), Set.of(
            "int code(long,int)", "int change(int,int)", "int clear()",
            "int handler(int,int,int,int)", "boolean mark(int,boolean)", "int cost(int,int)",
            "boolean set(int,int)", "int rewrite()", "int octet(int)", "int moved(int,int)",
            "int back(int)", "int guard(int,int)", "int about(int)", "int count(int)"));
        dueSame("fields", shownFields(), Set.of("int REFUSED", "int FULL"));
        due("public and final",
            Modifier.isPublic(MeterDesk.class.getModifiers()) && Modifier.isFinal(MeterDesk.class.getModifiers()));
        due("REFUSED", MeterDesk.REFUSED == -1);
        due("FULL", MeterDesk.FULL == -2);
        Constructor<?>[] makers = MeterDesk.class.getDeclaredConstructors();
        due("one public constructor without parameters", makers.length == 1
            && Modifier.isPublic(makers[0].getModifiers()) && makers[0].getParameterCount() == 0);
        dueNoSharedNames();
        dueNoStaticState();
        dueObjectsApart();
        System.out.println(wrong == 0 ? "the face is as due" : wrong + " things are not as due");
        if (wrong != 0) {
            System.exit(1);
        }
    }

    private static void due(String what, boolean holds) {
        if (!holds) {
            wrong++;
            System.out.println(what + ": does not hold");
        }
    }

    private static void dueSame(String what, Set<String> got, Set<String> want) {
        due(what + " are " + got + ", due are " + new TreeSet<>(want), got.equals(want));
    }

    private static Set<String> shownMethods() {
        Set<String> shown = new TreeSet<>();
        for (Method m : MeterDesk.class.getDeclaredMethods()) {
            if (!Modifier.isPrivate(m.getModifiers()) && !m.isSynthetic()) {
                StringBuilder text = new StringBuilder(m.getReturnType() + " " + m.getName() + "(");
                for (int i = 0; i < m.getParameterCount(); i++) {
                    text.append(i == 0 ? "" : ",").append(m.getParameterTypes()[i]);
                }
                due(m + " is public and no static one",
                    Modifier.isPublic(m.getModifiers()) && !Modifier.isStatic(m.getModifiers()));
                shown.add(text.append(")").toString());
            }
        }
        return shown;
    }

    private static Set<String> shownFields() {
        Set<String> shown = new TreeSet<>();
        for (Field f : MeterDesk.class.getDeclaredFields()) {
            if (!Modifier.isPrivate(f.getModifiers())) {
                shown.add(f.getType() + " " + f.getName());
            }
        }
        return shown;
    }

    private static void dueNoSharedNames() {
        Set<String> open = new TreeSet<>();
        for (Method m : MeterDesk.class.getDeclaredMethods()) {
            if (Modifier.isPublic(m.getModifiers())) {
                open.add(m.getName());
            }
        }
        for (Method m : MeterDesk.class.getDeclaredMethods()) {
            due(m + " has a name of its own", Modifier.isPublic(m.getModifiers()) || !open.contains(m.getName()));
        }
        for (Class<?> inside : MeterDesk.class.getDeclaredClasses()) {
            due(inside + " is static", Modifier.isStatic(inside.getModifiers()));
            for (Method m : inside.getDeclaredMethods()) {
                due(m + " has a name of its own", !open.contains(m.getName()));
            }
        }
    }

    private static void dueNoStaticState() {
        for (Field f : MeterDesk.class.getDeclaredFields()) {
            dueConstantIfStatic(f);
        }
        for (Class<?> inside : MeterDesk.class.getDeclaredClasses()) {
            for (Field f : inside.getDeclaredFields()) {
                dueConstantIfStatic(f);
            }
        }
    }

    private static void dueConstantIfStatic(Field f) {
        int m = f.getModifiers();
        due(f + " is a constant", !Modifier.isStatic(m) || Modifier.isFinal(m) && f.getType() == int.class);
    }

    private static void dueObjectsApart() {
        MeterDesk one = new MeterDesk();
        MeterDesk other = new MeterDesk();
        one.code(0L, 8);
        one.handler(0, 8, 0, 0);
        one.mark(5, true);
        one.cost(0, 9);
        one.set(7, 7);
        one.rewrite();
        due("no octets in another object", other.count(0) == 0 && other.about(0) == 0);
        due("no handlers in another object", other.count(1) == 0 && other.count(2) == 0);
        due("no cost in another object", other.cost(0, 1) == 1);
        other.code(0L, 1);
        other.handler(0, 1, 0, 5);
        other.rewrite();
        due("no base and mark in another object", other.octet(1) == 3 && other.about(0) == 8);
    }
}
