import java.lang.reflect.Array;
import java.lang.reflect.Constructor;
import java.lang.reflect.Field;
import java.lang.reflect.Method;
import java.lang.reflect.Modifier;
import java.util.ArrayDeque;
import java.util.ArrayList;
import java.util.Collections;
import java.util.Deque;
import java.util.IdentityHashMap;
import java.util.List;
import java.util.Set;
import java.util.TreeSet;

/** The public face, as the document writes it, and what LANGUAGE.md asks that reflection can see. */
public final class FaceTest {
    private static final String[] FACE = {
        "void places(int,int) AS", "void product(int,int,int,int) AS", "void hours(int,int,int) AS",
        "void free(int,int) AS", "int open() S", "int enter(int,int,int) AS", "int fee(int,int) AS",
        "boolean leave(int,int) AS", "int lost(int,int,int) AS", "void contract(int,int,int) AS",
        "void plate(int,int) AS", "boolean dropPlate(int) A", "boolean reserve(int,int,int,int) AS",
        "boolean cancelReserve(int) A", "int payBegin(int,int,int) AS", "int coin(int,int) AS",
        "int payEnd(int) AS", "int payBack(int) AS", "int changeCoins(int,int) A", "int fill(int,int,int) AS",
        "int box(int,int) A", "int occupied(int) A", "int inside(int) A", "int least(int,int,int) AS",
        "int best(int,int,int,int) AS", "int journal(int,int) A", "int takings(int,int) A",
    };
    // What 512 new objects in one room may have of its 7.3 million fields and elements, and of its objects.
    private static final int MOST_ELEMENTS = 14_000;
    private static final int MOST_OBJECTS = 1_100;

    public static void main(String[] args) throws Exception {
        face();
        nothingElse();
        nestedClasses();
        staticFields();
        room();
        Check.is("NONE", -1, ParkOffice.NONE);
        Check.is("FREE", 24, ParkOffice.FREE);
        Check.finish();
    }

    private static String written(Method m) {
        StringBuilder s = new StringBuilder(m.getReturnType() + " " + m.getName() + "(");
        for (int i = 0; i < m.getParameterCount(); i++) {
            s.append(i == 0 ? "" : ",").append(m.getParameterTypes()[i]);
        }
        s.append(") ");
        for (Class<?> e : m.getExceptionTypes()) {
            s.append(e == IllegalArgumentException.class ? "A" : e == IllegalStateException.class ? "S" : "?");
        }
        return s.toString();
    }

    private static void face() {
        Set<String> due = new TreeSet<>(List.of(FACE));
        Set<String> got = new TreeSet<>();
        for (Method m : ParkOffice.class.getDeclaredMethods()) {
            if (Modifier.isPublic(m.getModifiers())) {
                got.add(written(m));
            }
        }
        Check.yes("face: due " + due + ", not " + got, due.equals(got));
        Check.is("face: public and final", Modifier.PUBLIC | Modifier.FINAL, ParkOffice.class.getModifiers());
        Constructor<?>[] made = ParkOffice.class.getDeclaredConstructors();
        Check.yes("face: one constructor", made.length == 1 && made[0].getParameterCount() == 0);
    }

    private static void nothingElse() {
        for (Method m : ParkOffice.class.getDeclaredMethods()) {
            int how = m.getModifiers();
            Check.yes("rule 1: " + m, Modifier.isPublic(how) || Modifier.isPrivate(how));
            Check.yes("rule 1: a private one with a public name: " + m,
                    Modifier.isPublic(how) || !isOfFace(m.getName()));
        }
        for (Field f : ParkOffice.class.getDeclaredFields()) {
            boolean constant = f.getName().equals("NONE") || f.getName().equals("FREE");
            Check.is("rule 1: " + f, constant ? Modifier.PUBLIC : Modifier.PRIVATE,
                    f.getModifiers() & (Modifier.PUBLIC | Modifier.PRIVATE | Modifier.PROTECTED));
        }
    }

    private static boolean isOfFace(String name) {
        for (String row : FACE) {
            if (row.contains(" " + name + "(")) {
                return true;
            }
        }
        return false;
    }

    private static void nestedClasses() {
        Class<?>[] nested = ParkOffice.class.getDeclaredClasses();
        Check.yes("rule 11: some twelve classes", nested.length <= 11);
        for (Class<?> c : nested) {
            Check.yes("rule 1: static: " + c, Modifier.isStatic(c.getModifiers()));
            int fields = 0;
            for (Field f : c.getDeclaredFields()) {
                fields += Modifier.isStatic(f.getModifiers()) ? 0 : 1;
            }
            Check.yes("rule 11: fields of " + c, fields <= 20);
            for (Method m : c.getDeclaredMethods()) {
                Check.no("rule 1: a name of the face: " + m, isOfFace(m.getName()));
                Check.yes("rule 11: parameters of " + m, m.getParameterCount() <= 7);
            }
        }
    }

    private static void staticFields() {
        List<Class<?>> all = new ArrayList<>(List.of(ParkOffice.class.getDeclaredClasses()));
        all.add(ParkOffice.class);
        for (Class<?> c : all) {
            for (Field f : c.getDeclaredFields()) {
                if (Modifier.isStatic(f.getModifiers())) {
                    Check.yes("rule 5: " + f, Modifier.isFinal(f.getModifiers()));
                }
            }
        }
    }

    private static void room() throws IllegalAccessException {
        ParkOffice x = Check.hourly();
        x.enter(0, 1, 0);
        x.fee(1, 200_000);
        Set<Object> seen = Collections.newSetFromMap(new IdentityHashMap<>());
        long elements = countElements(x, seen);
        System.out.println("an office holds " + seen.size() + " objects, " + elements + " fields and elements");
        Check.yes("room: " + elements + " elements", elements <= MOST_ELEMENTS);
        Check.yes("room: " + seen.size() + " objects", seen.size() <= MOST_OBJECTS);
    }

    private static long countElements(Object root, Set<Object> seen) throws IllegalAccessException {
        long elements = 0;
        Deque<Object> open = new ArrayDeque<>(List.of(root));
        seen.add(root);
        while (!open.isEmpty()) {
            Object at = open.pop();
            List<Object> parts = new ArrayList<>();
            if (at.getClass().isArray()) {
                elements += Array.getLength(at);
                for (int i = 0; at instanceof Object[] row && i < row.length; i++) {
                    parts.add(row[i]);
                }
            } else if (!(at instanceof Enum)) {
                for (Field f : at.getClass().getDeclaredFields()) {
                    if (!Modifier.isStatic(f.getModifiers())) {
                        elements++;
                        f.setAccessible(true);
                        parts.add(f.getType().isPrimitive() ? null : f.get(at));
                    }
                }
            }
            for (Object part : parts) {
                if (part != null && seen.add(part)) {
                    open.push(part);
                }
            }
        }
        return elements;
    }
}
