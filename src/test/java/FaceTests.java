import java.lang.reflect.Constructor;
import java.lang.reflect.Field;
import java.lang.reflect.Method;
import java.lang.reflect.Modifier;
import java.util.ArrayList;
import java.util.Collections;
import java.util.List;

/**
 * The class has the document's face, and no other member that can be seen from outside; the classes inside it keep to
 * what LANGUAGE.md says of them, as far as it can be seen in the compiled class.
 */
public final class FaceTests {
    private static final String[] FACE = {
        "boolean fits()",
        "boolean passes(int, int) IllegalArgumentException",
        "boolean sensible(int) IllegalArgumentException",
        "int amount(int, int, int) IndexOutOfBoundsException IllegalArgumentException",
        "int chain(int, int) IndexOutOfBoundsException",
        "int circle(int) IllegalStateException IndexOutOfBoundsException",
        "int cost(int, int) IndexOutOfBoundsException",
        "int day() IllegalStateException",
        "int drop(int) IndexOutOfBoundsException",
        "int order(int) IndexOutOfBoundsException",
        "int price(int, int, int) IndexOutOfBoundsException IllegalArgumentException",
        "int shown(int, int) IndexOutOfBoundsException",
        "int shrinkage(int) IllegalArgumentException",
        "int size()",
        "void goods(int) IllegalArgumentException",
        "void offer(int, int, int) IndexOutOfBoundsException IllegalArgumentException",
        "void remove(int) IndexOutOfBoundsException",
    };

    private static int wrong = 0;

    private static void require(boolean holds, String what) {
        if (!holds) {
            wrong++;
            System.out.println("not so: " + what);
        }
    }

    private static String told(Method m) {
        StringBuilder text = new StringBuilder();
        text.append(m.getReturnType().getSimpleName()).append(' ').append(m.getName()).append('(');
        for (int i = 0; i < m.getParameterCount(); i++) {
            text.append(i == 0 ? "" : ", ").append(m.getParameterTypes()[i].getSimpleName());
        }
        text.append(')');
        for (Class<?> e : m.getExceptionTypes()) {
            text.append(' ').append(e.getSimpleName());
        }
        return text.toString();
    }

    private static void methods() {
        List<String> seen = new ArrayList<>();
        List<String> names = new ArrayList<>();
        for (Method m : WishLedger.class.getDeclaredMethods()) {
            if (!Modifier.isPrivate(m.getModifiers())) {
                require(Modifier.isPublic(m.getModifiers()) && !Modifier.isStatic(m.getModifiers()), "public: " + m);
                seen.add(told(m));
                names.add(m.getName());
            }
        }
        for (Method m : WishLedger.class.getDeclaredMethods()) {
            require(!Modifier.isPrivate(m.getModifiers()) || !names.contains(m.getName()), "a name of its own: " + m);
        }
        Collections.sort(seen);
        require(seen.equals(List.of(FACE)), "the methods are the face's: " + seen);
    }

    private static void fields() {
        for (Field f : WishLedger.class.getDeclaredFields()) {
            int modifiers = f.getModifiers();
            require(!Modifier.isStatic(modifiers) || Modifier.isFinal(modifiers), "static and final: " + f);
            require(Modifier.isPrivate(modifiers) || f.getName().equals("NONE"), "private: " + f);
        }
        try {
            Field none = WishLedger.class.getDeclaredField("NONE");
            require(none.getModifiers() == (Modifier.PUBLIC | Modifier.STATIC | Modifier.FINAL), "NONE is public");
            require(none.getType() == int.class && none.getInt(null) == -1, "NONE is -1");
        } catch (ReflectiveOperationException e) {
            require(false, "there is NONE");
        }
    }

    /** Rules 1, 2, 5 and 11: the names and the number of a class's members, no lambda, no static state. */
    private static void inside(Class<?> c, List<String> faceNames) {
        int held = 0;
        for (Field f : c.getDeclaredFields()) {
            boolean isStatic = Modifier.isStatic(f.getModifiers());
            held += isStatic ? 0 : 1;
            require(!isStatic || Modifier.isFinal(f.getModifiers()), "static and final: " + f);
        }
        require(held <= 20, "at most some twenty fields: " + c);
        for (Method m : c.getDeclaredMethods()) {
            require(!Modifier.isPrivate(m.getModifiers()) || !faceNames.contains(m.getName()), "a name of its own: " + m);
            require(m.getParameterCount() <= 7, "at most seven parameters: " + m);
            require(!m.isSynthetic(), "no lambda: " + m);
        }
    }

    private static void allInside() {
        List<String> faceNames = new ArrayList<>();
        for (Method m : WishLedger.class.getDeclaredMethods()) {
            if (Modifier.isPublic(m.getModifiers())) {
                faceNames.add(m.getName());
            }
        }
        Class<?>[] classes = WishLedger.class.getDeclaredClasses();
        require(classes.length <= 11, "at most some twelve classes");
        inside(WishLedger.class, faceNames);
        for (Class<?> c : classes) {
            inside(c, faceNames);
        }
    }

    private static void classes() {
        require(WishLedger.class.getModifiers() == (Modifier.PUBLIC | Modifier.FINAL), "public final class");
        Constructor<?>[] constructors = WishLedger.class.getDeclaredConstructors();
        require(constructors.length == 1 && constructors[0].getParameterCount() == 0
            && Modifier.isPublic(constructors[0].getModifiers()), "one public constructor");
        for (Class<?> inside : WishLedger.class.getDeclaredClasses()) {
            int modifiers = inside.getModifiers();
            require(Modifier.isStatic(modifiers) && !Modifier.isPublic(modifiers), "static, not public: " + inside);
        }
    }

    public static void main(String[] args) {
        methods();
        fields();
        classes();
        allInside();
        System.out.println(wrong == 0 ? "the face is the document's" : wrong + " things are not so");
        if (wrong != 0) {
            System.exit(1);
        }
    }
}
